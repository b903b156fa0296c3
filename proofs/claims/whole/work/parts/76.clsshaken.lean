/-! ===== SHAKEN: the courses counted ===== -/
section QSK
variable {d B R a b b' i j n c k rw cl bl L s kp D N e q m t x : Nat} {M M' M'' : qM} {u v : qV} {o : qOut} {y z : Int32} {p g dm lt w tt dp mo : Nat → Nat} {rg : Bool}
/-- of 10 to the power of l courses those behind which nail i is firm -/
def fcN (dm : Nat → Nat) (cl n i x : Nat) : Nat → (Nat → Nat) → Nat
  | 0, g => if g (635 + i) < 3 then 0 else 1
  | l + 1, g => if g (635 + i) < 3 then 0 else x * fcN dm cl n i x l (goesG dm cl 616 n true g).1 + (10 - x) * fcN dm cl n i x l (goesG dm cl 616 n false g).1
def sm (f : Nat → Nat) : Nat → Nat
  | 0 => 0
  | k + 1 => sm f k + f k
theorem sm_congr {f h : Nat → Nat} : ∀ k, (∀ s, s < k → f s = h s) → sm f k = sm h k := by
  intro k
  induction k with
  | zero => intro _; rfl
  | succ k ih => intro hh; show sm f k + f k = sm h k + h k; rw [ih (fun s hs => hh s (by omega)), hh k (by omega)]
theorem sm_dbl {f : Nat → Nat} : ∀ m, sm f (2 * m) = sm (fun s => f (2 * s) + f (2 * s + 1)) m := by
  intro m
  induction m with
  | zero => rfl
  | succ m ih =>
    rw [show 2 * (m + 1) = 2 * m + 1 + 1 by omega]
    show sm f (2 * m) + f (2 * m) + f (2 * m + 1) = sm _ m + (f (2 * m) + f (2 * m + 1))
    rw [ih]; omega
theorem sm_mul {f : Nat → Nat} : ∀ k, sm (fun s => c * f s) k = c * sm f k := by
  intro k
  induction k with
  | zero => rfl
  | succ k ih => show sm _ k + c * f k = c * (sm f k + f k); rw [ih, Nat.mul_add]
theorem sm_add {f h : Nat → Nat} : ∀ k, sm (fun s => f s + h s) k = sm f k + sm h k := by
  intro k
  induction k with
  | zero => rfl
  | succ k ih => show sm _ k + (f k + h k) = sm f k + f k + (sm h k + h k); rw [ih]; omega
theorem lp_sm {f h : Nat → Nat} : ∀ k, lp (fun s (z : Nat × Nat) => (z.1 + f s, z.2 + h s)) k 0 (0, 0) = (sm f k, sm h k) := by
  intro k
  induction k with
  | zero => rfl
  | succ k ih => rw [lp_last, ih, Nat.zero_add]; rfl
theorem bitP_e (hs : s < 512) (ht : t < 9) : bitP s t = decide (s / 2 ^ t % 2 = 1) := by
  unfold bitP
  rw [bit_has s hs t ht]
  have := Nat.mod_lt (s / 2 ^ t) (show 2 > 0 by omega)
  exact decide_eq_decide.mpr (nI_eq (by omega) (by omega))
theorem shI_w : ∀ k t w g, shI mo cl n x s k t w g = (w * (shI mo cl n x s k t 1 g).1, (shI mo cl n x s k t 1 g).2) := by
  intro k
  induction k with
  | zero => intro t w g; show (w, g) = (w * 1, g); rw [Nat.mul_one]
  | succ k ih =>
    intro t w g
    show shI mo cl n x s k (t + 1) (w * _) _ = (w * (shI mo cl n x s k (t + 1) (1 * _) _).1, (shI mo cl n x s k (t + 1) (1 * _) _).2)
    rw [ih (t + 1) (w * _), ih (t + 1) (1 * _), Nat.one_mul, Nat.mul_assoc]
theorem shI_sh (hs : s < 512) : ∀ k t w g, t + k ≤ 8 → shI mo cl n x s k (t + 1) w g = shI mo cl n x (s / 2) k t w g := by
  intro k
  induction k with
  | zero => intro t w g _; rfl
  | succ k ih =>
    intro t w g ht
    have e : bitP s (t + 1) = bitP (s / 2) t := by
      rw [bitP_e hs (by omega), bitP_e (by omega) (by omega), Nat.div_div_eq_div_mul, Nat.pow_succ, Nat.mul_comm]
    show shI mo cl n x s k (t + 1 + 1) (w * (if bitP s (t + 1) = true then x else 10 - x)) (goesG mo cl 616 n (bitP s (t + 1)) g).1 = shI mo cl n x (s / 2) k (t + 1) (w * (if bitP (s / 2) t = true then x else 10 - x)) (goesG mo cl 616 n (bitP (s / 2) t) g).1
    rw [e]
    exact ih (t + 1) _ _ (by omega)
theorem shI_0 (hs : s < 512) (hk : k ≤ 7) : shI mo cl n x s (k + 1) 0 1 g = ((if s % 2 = 1 then x else 10 - x) * (shI mo cl n x (s / 2) k 0 1 (goesG mo cl 616 n (decide (s % 2 = 1)) g).1).1, (shI mo cl n x (s / 2) k 0 1 (goesG mo cl 616 n (decide (s % 2 = 1)) g).1).2) := by
  have e : bitP s 0 = decide (s % 2 = 1) := by rw [bitP_e hs (by omega), Nat.pow_zero, Nat.div_one]
  show shI mo cl n x s k (0 + 1) (1 * (if bitP s 0 = true then x else 10 - x)) (goesG mo cl 616 n (bitP s 0) g).1 = _
  rw [shI_sh hs k 0 _ _ (by omega), shI_w, Nat.one_mul, e]
  congr 1
  by_cases c : s % 2 = 1
  · simp only [c, decide_true, if_true]
  · simp only [c, decide_false, Bool.false_eq_true, if_false]
theorem sh_all (hx : x ≤ 10) : ∀ k, k ≤ 8 → ∀ g, sm (fun s => (shI mo cl n x s k 0 1 g).1) (2 ^ k) = 10 ^ k := by
  intro k
  induction k with
  | zero => intro _ g; rfl
  | succ k ih =>
    intro hk g
    have hp : 2 ^ k ≤ 128 := Nat.pow_le_pow_right (n := 2) (by omega) (show k ≤ 7 by omega)
    rw [Nat.pow_succ, Nat.mul_comm, sm_dbl]
    have e : sm (fun s => (shI mo cl n x (2 * s) (k + 1) 0 1 g).1 + (shI mo cl n x (2 * s + 1) (k + 1) 0 1 g).1) (2 ^ k) = sm (fun s => (10 - x) * (shI mo cl n x s k 0 1 (goesG mo cl 616 n false g).1).1 + x * (shI mo cl n x s k 0 1 (goesG mo cl 616 n true g).1).1) (2 ^ k) := sm_congr _ (fun s hs => by
      rw [shI_0 (by omega) (by omega), shI_0 (by omega) (by omega), show 2 * s % 2 = 0 by omega, show (2 * s + 1) % 2 = 1 by omega, show 2 * s / 2 = s by omega, show (2 * s + 1) / 2 = s by omega]
      rfl)
    rw [e, sm_add, sm_mul, sm_mul, ih (by omega), ih (by omega), ← Nat.add_mul, show 10 - x + x = 10 by omega, Nat.pow_succ, Nat.mul_comm]
theorem sh_dle (hn9 : n ≤ 9) (hi : i < n) : ∀ k t w g, (shI mo cl n x s k t w g).2 (635 + i) ≤ g (635 + i) := by
  intro k
  induction k with
  | zero => intro t w g; exact Nat.le_refl _
  | succ k ih =>
    intro t w g
    have := goesG_dle (mo := mo) (cl := cl) (b := 616) (rg := bitP s t) (g := g) hn9 hi
    rw [show 616 + 19 + i = 635 + i by omega] at this
    exact Nat.le_trans (ih _ _ _) this
theorem sh_fc (hn9 : n ≤ 9) (hi : i < n) (hx : x ≤ 10) : ∀ k, k ≤ 8 → ∀ g, sm (fun s => if 2 < (shI mo cl n x s k 0 1 g).2 (635 + i) then (shI mo cl n x s k 0 1 g).1 else 0) (2 ^ k) = fcN mo cl n i x k g := by
  intro k
  induction k with
  | zero =>
    intro _ g
    show 0 + (if 2 < g (635 + i) then 1 else 0) = if g (635 + i) < 3 then 0 else 1
    by_cases c : 2 < g (635 + i)
    · rw [if_pos c, if_neg (by omega)]
    · rw [if_neg c, if_pos (by omega)]
  | succ k ih =>
    intro hk g
    have hp : 2 ^ k ≤ 128 := Nat.pow_le_pow_right (n := 2) (by omega) (show k ≤ 7 by omega)
    show _ = if g (635 + i) < 3 then 0 else x * fcN mo cl n i x k (goesG mo cl 616 n true g).1 + (10 - x) * fcN mo cl n i x k (goesG mo cl 616 n false g).1
    by_cases c : g (635 + i) < 3
    · rw [if_pos c]
      have : sm (fun s => if 2 < (shI mo cl n x s (k + 1) 0 1 g).2 (635 + i) then (shI mo cl n x s (k + 1) 0 1 g).1 else 0) (2 ^ (k + 1)) = sm (fun _ => 0 * 0) (2 ^ (k + 1)) := sm_congr _ (fun s hs => if_neg (by have := sh_dle (mo := mo) (cl := cl) (x := x) (s := s) hn9 hi (k + 1) 0 1 g; omega))
      rw [this, sm_mul (c := 0) (f := fun _ => 0), Nat.zero_mul]
    · rw [if_neg c, Nat.pow_succ, Nat.mul_comm, sm_dbl]
      have e : sm (fun s => (if 2 < (shI mo cl n x (2 * s) (k + 1) 0 1 g).2 (635 + i) then (shI mo cl n x (2 * s) (k + 1) 0 1 g).1 else 0) + (if 2 < (shI mo cl n x (2 * s + 1) (k + 1) 0 1 g).2 (635 + i) then (shI mo cl n x (2 * s + 1) (k + 1) 0 1 g).1 else 0)) (2 ^ k) = sm (fun s => (10 - x) * (if 2 < (shI mo cl n x s k 0 1 (goesG mo cl 616 n false g).1).2 (635 + i) then (shI mo cl n x s k 0 1 (goesG mo cl 616 n false g).1).1 else 0) + x * (if 2 < (shI mo cl n x s k 0 1 (goesG mo cl 616 n true g).1).2 (635 + i) then (shI mo cl n x s k 0 1 (goesG mo cl 616 n true g).1).1 else 0)) (2 ^ k) := sm_congr _ (fun s hs => by
        rw [shI_0 (by omega) (by omega), shI_0 (by omega) (by omega), show 2 * s % 2 = 0 by omega, show (2 * s + 1) % 2 = 1 by omega, show 2 * s / 2 = s by omega, show (2 * s + 1) / 2 = s by omega]
        have hm : ∀ (P : Prop) [Decidable P] (a b : Nat), (if P then a * b else 0) = a * (if P then b else 0) := fun P _ a b => by
          by_cases hP : P
          · rw [if_pos hP, if_pos hP]
          · rw [if_neg hP, if_neg hP, Nat.mul_zero]
        rw [← hm, ← hm]
        rfl)
      rw [e, sm_add, sm_mul, sm_mul, ih (by omega), ih (by omega), Nat.add_comm]
theorem shU_e (hn9 : n ≤ 9) (hi : i < n) (hx : x ≤ 10) (hN : N ≤ 8) : shU dm cl n N x i g = (fcN dm cl n i x N (cpG g 0 616 56), 10 ^ N) := by
  unfold shU
  have := lp_sm (f := fun s => if 2 < (shI dm cl n x s N 0 1 (cpG g 0 616 56)).2 (635 + i) then (shI dm cl n x s N 0 1 (cpG g 0 616 56)).1 else 0) (h := fun s => (shI dm cl n x s N 0 1 (cpG g 0 616 56)).1) (2 ^ N)
  rw [sh_fc hn9 hi hx N hN, sh_all hx N hN] at this
  exact this
theorem fcN_le (hx : x ≤ 10) : ∀ l g, fcN dm cl n i x l g ≤ 10 ^ l := by
  intro l
  induction l with
  | zero => intro g; unfold fcN; split <;> decide
  | succ l ih =>
    intro g
    unfold fcN
    split
    · exact Nat.zero_le _
    · have h1 := Nat.mul_le_mul_left x (ih (goesG dm cl 616 n true g).1)
      have h2 := Nat.mul_le_mul_left (10 - x) (ih (goesG dm cl 616 n false g).1)
      have h3 : x * 10 ^ l + (10 - x) * 10 ^ l = 10 ^ (l + 1) := by rw [← Nat.add_mul, show x + (10 - x) = 10 by omega, Nat.pow_succ, Nat.mul_comm]
      omega
theorem N_ten : ∀ (k i : Nat), i + k = N → Rn d 43 (4, [.int (nI N), .int (nI (10 ^ i)), .int (nI i)], [], 0, 0, M) o = (o = (some (.int (nI (10 ^ (i + k)))), M)) ∨ 1000 ≤ N := by
  intro k
  induction k with
  | zero =>
    intro i hi
    by_cases c : 1000 ≤ N
    · exact Or.inr c
    · left
      simp (disch := omega) only [x43_4, x43_5, x43_6, x43_20, x43_21, rf_some, qS_sB, qR_sB, qZ_sB, qI_sB0, qI_sB3, qI_sBn, pI_sB0, pI_sB3, pI_sBn, isWall_sB, exists_eq_left, Option.toList_some, Option.toList_none, List.cons_append, List.nil_append, if_true, if_false, qb_0, qb_q01, q01_1, q01_0, if_qb, if_qbn, if_qba, if_qbo, eq_self, true_or, or_true, and_self, true_and, and_true, not_true_eq_false, not_false_eq_true, vpi, ltI, eqI, eqI0, eqI4, nI_clamp, ite_not, vs_same, vs_ne, qrem_f, qabs_f, Nat.not_lt_zero, show ¬ i < N by omega, Nat.add_zero]
  | succ k ih =>
    intro i hi
    rcases ih (i + 1) (by omega) with h | h
    · by_cases c : 1000 ≤ N
      · exact Or.inr c
      · left
        rw [show i + (k + 1) = i + 1 + k by omega, ← h, x43_4]
        simp (disch := omega) only [x43_5, x43_6, x43_9, x43_10, x43_12, x43_13, x43_14, x43_17, rf_some, qS_sB, qR_sB, qZ_sB, qI_sB0, qI_sB3, qI_sBn, pI_sB0, pI_sB3, pI_sBn, isWall_sB, exists_eq_left, Option.toList_some, Option.toList_none, List.cons_append, List.nil_append, if_true, if_false, qb_0, qb_q01, q01_1, q01_0, if_qb, if_qbn, if_qba, if_qbo, eq_self, true_or, or_true, and_self, true_and, and_true, not_true_eq_false, not_false_eq_true, vpi, ltI, eqI, eqI0, eqI4, nI_clamp, ite_not, vs_same, vs_ne, qrem_f, qabs_f, Nat.not_lt_zero, show i < N by omega, pk_mul, nI_add]
        rw [Nat.pow_succ]
    · exact Or.inr h
theorem N_tenTo (hN : N ≤ 8) : Ev (d + 1) 43 [.int (nI N)] M o = (o = (some (.int (nI (10 ^ N))), M)) := by
  have h := (N_ten (d := d) (M := M) (o := o) (N := N) N 0 (Nat.zero_add N)).resolve_right (by omega)
  rw [Nat.pow_zero, Nat.zero_add] at h
  simp only [e43, x43_0, x43_1, x43_2, x43_3, h]
theorem N_gcd_loop (l0 l1 : Value) : ∀ (k t a b : Nat) (l5 : Value), b < 2 ^ k → t + 2 * k ≤ 99 → a < 2 ^ 31 → b < 2 ^ 31 → Rn d 44 (7, [l0, l1, .int (nI a), .int (nI b), .int (nI t), l5], [], 0, 0, M) o = (o = (some (.int (nI (Nat.gcd a b))), M)) := by
  intro k
  induction k with
  | zero =>
    intro t a b l5 hb ht ha hb2
    have e : b = 0 := by omega
    subst e
    rw [Nat.gcd_zero_right]
    simp (disch := omega) only [x44_7, x44_9, x44_11, x44_14, x44_15, x44_34, x44_35, rf_some, qS_sB, qR_sB, qZ_sB, qI_sB0, qI_sB3, qI_sBn, pI_sB0, pI_sB3, pI_sBn, isWall_sB, exists_eq_left, Option.toList_some, Option.toList_none, List.cons_append, List.nil_append, if_true, if_false, qb_0, qb_q01, q01_1, q01_0, if_qb, if_qbn, if_qba, if_qbo, eq_self, true_or, or_true, and_self, true_and, and_true, not_true_eq_false, not_false_eq_true, vpi, ltI, eqI, eqI0, eqI4, nI_clamp, ite_not, vs_same, vs_ne, qrem_f, qabs_f, Nat.not_lt_zero, show t < 100 by omega]
  | succ k ih =>
    intro t a b l5 hb ht ha hb2
    by_cases c : b = 0
    · subst c
      rw [Nat.gcd_zero_right]
      simp (disch := omega) only [x44_7, x44_9, x44_11, x44_14, x44_15, x44_34, x44_35, rf_some, qS_sB, qR_sB, qZ_sB, qI_sB0, qI_sB3, qI_sBn, pI_sB0, pI_sB3, pI_sBn, isWall_sB, exists_eq_left, Option.toList_some, Option.toList_none, List.cons_append, List.nil_append, if_true, if_false, qb_0, qb_q01, q01_1, q01_0, if_qb, if_qbn, if_qba, if_qbo, eq_self, true_or, or_true, and_self, true_and, and_true, not_true_eq_false, not_false_eq_true, vpi, ltI, eqI, eqI0, eqI4, nI_clamp, ite_not, vs_same, vs_ne, qrem_f, qabs_f, Nat.not_lt_zero, show t < 100 by omega]
    · have hr := Nat.mod_lt a (show b > 0 by omega)
      have eg : Nat.gcd a b = Nat.gcd b (a % b) := by rw [Nat.gcd_comm b (a % b), ← Nat.gcd_rec, Nat.gcd_comm]
      by_cases c2 : a % b = 0
      · rw [eg, c2, Nat.gcd_zero_right, x44_7]
        have h2 : Rn d 44 (7, [l0, l1, .int (nI b), .int (nI 0), .int (nI (t + 1)), .int (nI 0)], [], 0, 0, M) o = (o = (some (.int (nI b)), M)) := by
          simp (disch := omega) only [x44_7, x44_9, x44_11, x44_14, x44_15, x44_34, x44_35, rf_some, qS_sB, qR_sB, qZ_sB, qI_sB0, qI_sB3, qI_sBn, pI_sB0, pI_sB3, pI_sBn, isWall_sB, exists_eq_left, Option.toList_some, Option.toList_none, List.cons_append, List.nil_append, if_true, if_false, qb_0, qb_q01, q01_1, q01_0, if_qb, if_qbn, if_qba, if_qbo, eq_self, true_or, or_true, and_self, true_and, and_true, not_true_eq_false, not_false_eq_true, vpi, ltI, eqI, eqI0, eqI4, nI_clamp, ite_not, vs_same, vs_ne, qrem_f, qabs_f, Nat.not_lt_zero, show t + 1 < 100 by omega]
        simp (disch := first | omega | (simp (disch := omega) only [rf_some, qS_sB, qR_sB, qZ_sB, qI_sB0, qI_sB3, qI_sBn, pI_sB0, pI_sB3, pI_sBn, isWall_sB, exists_eq_left, Option.toList_some, Option.toList_none, List.cons_append, List.nil_append, if_true, if_false, qb_0, qb_q01, q01_1, q01_0, if_qb, if_qbn, if_qba, if_qbo, eq_self, true_or, or_true, and_self, true_and, and_true, not_true_eq_false, not_false_eq_true, vpi, ltI, eqI, eqI0, eqI4, nI_clamp, ite_not, vs_same, vs_ne, qrem_f, qabs_f, Nat.not_lt_zero, c]; done)) only [x44_9, x44_11, x44_14, x44_15, x44_18, x44_19, x44_20, x44_21, x44_23, x44_24, x44_25, x44_27, x44_28, x44_31, rf_some, qS_sB, qR_sB, qZ_sB, qI_sB0, qI_sB3, qI_sBn, pI_sB0, pI_sB3, pI_sBn, isWall_sB, exists_eq_left, Option.toList_some, Option.toList_none, List.cons_append, List.nil_append, if_true, if_false, qb_0, qb_q01, q01_1, q01_0, if_qb, if_qbn, if_qba, if_qbo, eq_self, true_or, or_true, and_self, true_and, and_true, not_true_eq_false, not_false_eq_true, vpi, ltI, eqI, eqI0, eqI4, nI_clamp, ite_not, vs_same, vs_ne, qrem_f, qabs_f, Nat.not_lt_zero, show t < 100 by omega, c, pk_div, pk_mul, rem_n, c2, nI_add, h2]
      · have hr2 := Nat.mod_lt b (show a % b > 0 by omega)
        have hle : 2 * (b % (a % b)) < b := by
          have h3 := Nat.div_add_mod b (a % b)
          have h4 : 1 ≤ b / (a % b) := Nat.div_pos (by omega) (by omega)
          have h5 : a % b ≤ (a % b) * (b / (a % b)) := Nat.le_mul_of_pos_right _ h4
          omega
        have eg2 : Nat.gcd b (a % b) = Nat.gcd (a % b) (b % (a % b)) := by rw [Nat.gcd_comm (a % b), ← Nat.gcd_rec, Nat.gcd_comm]
        have hi := ih (t + 1 + 1) (a % b) (b % (a % b)) (.int (nI (b % (a % b)))) (by rw [Nat.pow_succ] at hb; omega) (by omega) (by omega) (by omega)
        have h2 : Rn d 44 (7, [l0, l1, .int (nI b), .int (nI (a % b)), .int (nI (t + 1)), .int (nI (a % b))], [], 0, 0, M) o = (o = (some (.int (nI (Nat.gcd (a % b) (b % (a % b))))), M)) := by
          rw [← hi, x44_7]
          simp (disch := first | omega | (simp (disch := omega) only [rf_some, qS_sB, qR_sB, qZ_sB, qI_sB0, qI_sB3, qI_sBn, pI_sB0, pI_sB3, pI_sBn, isWall_sB, exists_eq_left, Option.toList_some, Option.toList_none, List.cons_append, List.nil_append, if_true, if_false, qb_0, qb_q01, q01_1, q01_0, if_qb, if_qbn, if_qba, if_qbo, eq_self, true_or, or_true, and_self, true_and, and_true, not_true_eq_false, not_false_eq_true, vpi, ltI, eqI, eqI0, eqI4, nI_clamp, ite_not, vs_same, vs_ne, qrem_f, qabs_f, Nat.not_lt_zero, c2]; done)) only [x44_9, x44_11, x44_14, x44_15, x44_18, x44_19, x44_20, x44_21, x44_23, x44_24, x44_25, x44_27, x44_28, x44_31, rf_some, qS_sB, qR_sB, qZ_sB, qI_sB0, qI_sB3, qI_sBn, pI_sB0, pI_sB3, pI_sBn, isWall_sB, exists_eq_left, Option.toList_some, Option.toList_none, List.cons_append, List.nil_append, if_true, if_false, qb_0, qb_q01, q01_1, q01_0, if_qb, if_qbn, if_qba, if_qbo, eq_self, true_or, or_true, and_self, true_and, and_true, not_true_eq_false, not_false_eq_true, vpi, ltI, eqI, eqI0, eqI4, nI_clamp, ite_not, vs_same, vs_ne, qrem_f, qabs_f, Nat.not_lt_zero, show t + 1 < 100 by omega, c2, pk_div, pk_mul, rem_n, nI_add]
        rw [eg, eg2, ← h2, x44_7]
        simp (disch := first | omega | (simp (disch := omega) only [rf_some, qS_sB, qR_sB, qZ_sB, qI_sB0, qI_sB3, qI_sBn, pI_sB0, pI_sB3, pI_sBn, isWall_sB, exists_eq_left, Option.toList_some, Option.toList_none, List.cons_append, List.nil_append, if_true, if_false, qb_0, qb_q01, q01_1, q01_0, if_qb, if_qbn, if_qba, if_qbo, eq_self, true_or, or_true, and_self, true_and, and_true, not_true_eq_false, not_false_eq_true, vpi, ltI, eqI, eqI0, eqI4, nI_clamp, ite_not, vs_same, vs_ne, qrem_f, qabs_f, Nat.not_lt_zero, c]; done)) only [x44_9, x44_11, x44_14, x44_15, x44_18, x44_19, x44_20, x44_21, x44_23, x44_24, x44_25, x44_27, x44_28, x44_31, rf_some, qS_sB, qR_sB, qZ_sB, qI_sB0, qI_sB3, qI_sBn, pI_sB0, pI_sB3, pI_sBn, isWall_sB, exists_eq_left, Option.toList_some, Option.toList_none, List.cons_append, List.nil_append, if_true, if_false, qb_0, qb_q01, q01_1, q01_0, if_qb, if_qbn, if_qba, if_qbo, eq_self, true_or, or_true, and_self, true_and, and_true, not_true_eq_false, not_false_eq_true, vpi, ltI, eqI, eqI0, eqI4, nI_clamp, ite_not, vs_same, vs_ne, qrem_f, qabs_f, Nat.not_lt_zero, show t < 100 by omega, c, pk_div, pk_mul, rem_n, nI_add]
theorem N_gcd {a b : Nat} (ha : a < 2 ^ 31) (hb : b < 2 ^ 31) : Ev (d + 1) 44 [.int (nI a), .int (nI b)] M o = (o = (some (.int (nI (Nat.gcd a b))), M)) := by
  simp only [e44, x44_0, x44_1, x44_2, x44_3, x44_4, x44_5, N_gcd_loop (.int (nI a)) (.int (nI b)) 31 0 a b _ hb (by omega) ha hb]
/-- ints alone have changed, and those from lo on below hi -/
def dif (lo hi : Nat) (M M' : qM) : Prop := qS M' = qS M ∧ qZ M' = qZ M ∧ qT M' = qT M ∧ qR M' = qR M ∧ ∀ x k, x < lo ∨ hi ≤ x → qI M' x k = qI M x k
theorem dif_refl {lo hi : Nat} : dif lo hi M M := ⟨rfl, rfl, rfl, rfl, fun _ _ _ => rfl⟩
theorem dif_trans {lo hi : Nat} (h : dif lo hi M M') (h' : dif lo hi M' M'') : dif lo hi M M'' := ⟨h'.1.trans h.1, h'.2.1.trans h.2.1, h'.2.2.1.trans h.2.2.1, h'.2.2.2.1.trans h.2.2.2.1, fun x k hx => (h'.2.2.2.2 x k hx).trans (h.2.2.2.2 x k hx)⟩
theorem dif_mono {lo hi hi' : Nat} (h : dif lo hi M M') (hh : hi ≤ hi') : dif lo hi' M M' := ⟨h.1, h.2.1, h.2.2.1, h.2.2.2.1, fun x k hx => h.2.2.2.2 x k (by omega)⟩
theorem dif_sB {lo hi : Nat} (h : lo ≤ a ∧ a + 13 ≤ hi) : dif lo hi M (sB M a v) := ⟨rfl, rfl, rfl, rfl, fun x k hx => qI_sBx (by omega)⟩
theorem AQ_cg (h : AQ u g b n rw cl bl dm) (e : ∀ j k, j < 13 → v j k = u j k) : AQ v g b n rw cl bl dm := ⟨RW_cg h.1 h.2.1 e, h.2⟩
theorem D_pass1 (h : isWall M a) (q : AQ u g b n rw cl bl dm) : Ev (d + 5) 166 [.ref a, .int (nI 1)] (sB M a u) o = (o = (some (.int (opI (goesG dm cl b n true g).2)), sB M a (w_pass u n (true = true)).1)) := D_pass (P := (true = true)) h q Iff.rfl
theorem D_pass0 (h : isWall M a) (q : AQ u g b n rw cl bl dm) : Ev (d + 5) 166 [.ref a, .int (nI 0)] (sB M a u) o = (o = (some (.int (opI (goesG dm cl b n false g).2)), sB M a (w_pass u n (false = true)).1)) := D_pass (P := (false = true)) h q Iff.rfl
theorem N_firm (hi : i < n) (hx : x ≤ 10) : ∀ (l a : Nat) (M : qM) (g : Nat → Nat), l ≤ 8 → CS M B p → isWall M a → (a = B + 7 ∨ ∃ j, l ≤ j ∧ j < 8 ∧ a = B + 171 + 13 * j) → AQ (blk M a) g 616 n rw cl bl dm → ∃ M', dif (B + 171) (B + 171 + 13 * l) M M' ∧ ∀ (d : Nat) o, l ≤ d → Ev (d + 6) 42 [.ref (B + 169), .ref a, .int (nI i), .int (nI l), .int (nI x)] M o = (o = (some (.int (nI (fcN dm cl n i x l g))), M')) := by
  intro l
  induction l with
  | zero =>
    intro a M g hl h ha hal q
    obtain ⟨⟨n0, n1, n2, n3, n4, n5, n6, n7, n8, n9⟩, _⟩ := id h
    have hn9 := q.2.1
    have hsn := W_sn ha (show i < 9 by omega)
    have ha0 := W_s ha
    have f3 := (q.1.2.2.2 i hi).2.2.2.1
    rw [show 616 + 19 + i = 635 + i by omega] at f3
    have f3' := nblk f3
    have hgi := (q.2.2.1 i (by omega)).2.2.1
    rw [show 616 + 19 + i = 635 + i by omega] at hgi
    refine ⟨M, dif_refl, fun d o hd => ?_⟩
    by_cases c : g (635 + i) < 3
    · simp (disch := first | omega | (simp (disch := omega) only [rf_some, qS_sB, qR_sB, qZ_sB, qI_sB0, qI_sB3, qI_sBn, pI_sB0, pI_sB3, pI_sBn, isWall_sB, exists_eq_left, Option.toList_some, Option.toList_none, List.cons_append, List.nil_append, if_true, if_false, qb_0, qb_q01, q01_1, q01_0, if_qb, if_qbn, if_qba, if_qbo, eq_self, true_or, or_true, and_self, true_and, and_true, not_true_eq_false, not_false_eq_true, vpi, ltI, eqI, eqI0, eqI4, nI_clamp, ite_not, vs_same, vs_ne, qrem_f, qabs_f, Nat.not_lt_zero, qS_bB, qR_bB, qZ_bB, qI_bB0, qI_bB, pI_bB0, pI_bB, isWall_bB, isItm_bB, isItm_sB, ltm, m1_lt, pk_mul, n0, n1, n2, n3, n4, n5, n6, n7, n8, n9, ha0, hsn, ha]; done) | (simp (disch := omega) only [rf_some, qS_sB, qR_sB, qZ_sB, qI_sB0, qI_sB3, qI_sBn, pI_sB0, pI_sB3, pI_sBn, isWall_sB, exists_eq_left, Option.toList_some, Option.toList_none, List.cons_append, List.nil_append, if_true, if_false, qb_0, qb_q01, q01_1, q01_0, if_qb, if_qbn, if_qba, if_qbo, eq_self, true_or, or_true, and_self, true_and, and_true, not_true_eq_false, not_false_eq_true, vpi, ltI, eqI, eqI0, eqI4, nI_clamp, ite_not, vs_same, vs_ne, qrem_f, qabs_f, Nat.not_lt_zero, qS_bB, qR_bB, qZ_bB, qI_bB0, qI_bB, pI_bB0, pI_bB, isWall_bB, isItm_bB, isItm_sB, ltm, m1_lt, pk_mul, n0, n1, n2, n3, n4, n5, n6, n7, n8, n9, ha0, hsn, ha]; omega)) only [e42, x42_0, x42_1, x42_2, x42_5, x42_8, x42_9, x42_12, x42_13, rf_some, qS_sB, qR_sB, qZ_sB, qI_sB0, qI_sB3, qI_sBn, pI_sB0, pI_sB3, pI_sBn, isWall_sB, exists_eq_left, Option.toList_some, Option.toList_none, List.cons_append, List.nil_append, if_true, if_false, qb_0, qb_q01, q01_1, q01_0, if_qb, if_qbn, if_qba, if_qbo, eq_self, true_or, or_true, and_self, true_and, and_true, not_true_eq_false, not_false_eq_true, vpi, ltI, eqI, eqI0, eqI4, nI_clamp, ite_not, vs_same, vs_ne, qrem_f, qabs_f, Nat.not_lt_zero, S_at, ha, show i < 9 by omega, hsn, f3', c, fcN]
    · simp (disch := first | omega | (simp (disch := omega) only [rf_some, qS_sB, qR_sB, qZ_sB, qI_sB0, qI_sB3, qI_sBn, pI_sB0, pI_sB3, pI_sBn, isWall_sB, exists_eq_left, Option.toList_some, Option.toList_none, List.cons_append, List.nil_append, if_true, if_false, qb_0, qb_q01, q01_1, q01_0, if_qb, if_qbn, if_qba, if_qbo, eq_self, true_or, or_true, and_self, true_and, and_true, not_true_eq_false, not_false_eq_true, vpi, ltI, eqI, eqI0, eqI4, nI_clamp, ite_not, vs_same, vs_ne, qrem_f, qabs_f, Nat.not_lt_zero, qS_bB, qR_bB, qZ_bB, qI_bB0, qI_bB, pI_bB0, pI_bB, isWall_bB, isItm_bB, isItm_sB, ltm, m1_lt, pk_mul, n0, n1, n2, n3, n4, n5, n6, n7, n8, n9, ha0, hsn, ha]; done) | (simp (disch := omega) only [rf_some, qS_sB, qR_sB, qZ_sB, qI_sB0, qI_sB3, qI_sBn, pI_sB0, pI_sB3, pI_sBn, isWall_sB, exists_eq_left, Option.toList_some, Option.toList_none, List.cons_append, List.nil_append, if_true, if_false, qb_0, qb_q01, q01_1, q01_0, if_qb, if_qbn, if_qba, if_qbo, eq_self, true_or, or_true, and_self, true_and, and_true, not_true_eq_false, not_false_eq_true, vpi, ltI, eqI, eqI0, eqI4, nI_clamp, ite_not, vs_same, vs_ne, qrem_f, qabs_f, Nat.not_lt_zero, qS_bB, qR_bB, qZ_bB, qI_bB0, qI_bB, pI_bB0, pI_bB, isWall_bB, isItm_bB, isItm_sB, ltm, m1_lt, pk_mul, n0, n1, n2, n3, n4, n5, n6, n7, n8, n9, ha0, hsn, ha]; omega)) only [e42, x42_0, x42_1, x42_2, x42_5, x42_8, x42_9, x42_12, x42_13, x42_14, x42_15, x42_16, x42_19, x42_20, rf_some, qS_sB, qR_sB, qZ_sB, qI_sB0, qI_sB3, qI_sBn, pI_sB0, pI_sB3, pI_sBn, isWall_sB, exists_eq_left, Option.toList_some, Option.toList_none, List.cons_append, List.nil_append, if_true, if_false, qb_0, qb_q01, q01_1, q01_0, if_qb, if_qbn, if_qba, if_qbo, eq_self, true_or, or_true, and_self, true_and, and_true, not_true_eq_false, not_false_eq_true, vpi, ltI, eqI, eqI0, eqI4, nI_clamp, ite_not, vs_same, vs_ne, qrem_f, qabs_f, Nat.not_lt_zero, S_at, ha, show i < 9 by omega, hsn, f3', c, fcN, show 0 < 1 by omega]
  | succ l ih =>
    intro a M g hl h ha hal q
    obtain ⟨⟨n0, n1, n2, n3, n4, n5, n6, n7, n8, n9⟩, _, hI, hW, hA, hP, hK, hC, hM, hG, hpk, hpi⟩ := id h
    have hn9 := q.2.1
    have hsn := W_sn ha (show i < 9 by omega)
    have ha0 := W_s ha
    have f3 := (q.1.2.2.2 i hi).2.2.2.1
    rw [show 616 + 19 + i = 635 + i by omega] at f3
    have f3' := nblk f3
    have hgi := (q.2.2.1 i (by omega)).2.2.1
    rw [show 616 + 19 + i = 635 + i by omega] at hgi
    have e0 : fcN dm cl n i x (l + 1) g = if g (635 + i) < 3 then 0 else x * fcN dm cl n i x l (goesG dm cl 616 n true g).1 + (10 - x) * fcN dm cl n i x l (goesG dm cl 616 n false g).1 := rfl
    by_cases c : g (635 + i) < 3
    · refine ⟨M, dif_refl, fun d o hd => ?_⟩
      rw [e0, if_pos c]
      simp (disch := first | omega | (simp (disch := omega) only [rf_some, qS_sB, qR_sB, qZ_sB, qI_sB0, qI_sB3, qI_sBn, pI_sB0, pI_sB3, pI_sBn, isWall_sB, exists_eq_left, Option.toList_some, Option.toList_none, List.cons_append, List.nil_append, if_true, if_false, qb_0, qb_q01, q01_1, q01_0, if_qb, if_qbn, if_qba, if_qbo, eq_self, true_or, or_true, and_self, true_and, and_true, not_true_eq_false, not_false_eq_true, vpi, ltI, eqI, eqI0, eqI4, nI_clamp, ite_not, vs_same, vs_ne, qrem_f, qabs_f, Nat.not_lt_zero, qS_bB, qR_bB, qZ_bB, qI_bB0, qI_bB, pI_bB0, pI_bB, isWall_bB, isItm_bB, isItm_sB, ltm, m1_lt, pk_mul, n0, n1, n2, n3, n4, n5, n6, n7, n8, n9, ha0, hsn, ha]; done) | (simp (disch := omega) only [rf_some, qS_sB, qR_sB, qZ_sB, qI_sB0, qI_sB3, qI_sBn, pI_sB0, pI_sB3, pI_sBn, isWall_sB, exists_eq_left, Option.toList_some, Option.toList_none, List.cons_append, List.nil_append, if_true, if_false, qb_0, qb_q01, q01_1, q01_0, if_qb, if_qbn, if_qba, if_qbo, eq_self, true_or, or_true, and_self, true_and, and_true, not_true_eq_false, not_false_eq_true, vpi, ltI, eqI, eqI0, eqI4, nI_clamp, ite_not, vs_same, vs_ne, qrem_f, qabs_f, Nat.not_lt_zero, qS_bB, qR_bB, qZ_bB, qI_bB0, qI_bB, pI_bB0, pI_bB, isWall_bB, isItm_bB, isItm_sB, ltm, m1_lt, pk_mul, n0, n1, n2, n3, n4, n5, n6, n7, n8, n9, ha0, hsn, ha]; omega)) only [e42, x42_0, x42_1, x42_2, x42_5, x42_8, x42_9, x42_12, x42_13, rf_some, qS_sB, qR_sB, qZ_sB, qI_sB0, qI_sB3, qI_sBn, pI_sB0, pI_sB3, pI_sBn, isWall_sB, exists_eq_left, Option.toList_some, Option.toList_none, List.cons_append, List.nil_append, if_true, if_false, qb_0, qb_q01, q01_1, q01_0, if_qb, if_qbn, if_qba, if_qbo, eq_self, true_or, or_true, and_self, true_and, and_true, not_true_eq_false, not_false_eq_true, vpi, ltI, eqI, eqI0, eqI4, nI_clamp, ite_not, vs_same, vs_ne, qrem_f, qabs_f, Nat.not_lt_zero, S_at, ha, show i < 9 by omega, hsn, f3', c]
    · rw [if_neg c] at e0
      have hCs := hC.1
      have hcw : isWall M (B + 171 + 13 * l) := hC.2.2.2.2.1 l (by omega)
      have hc0 := W_s hcw
      have hat := fun {d : Nat} {o : qOut} => S_ws_at (d := d) (o := o) hC (show l < 8 by omega)
      have hdis : B + 171 + 13 * l + 13 ≤ a ∨ a + 13 ≤ B + 171 + 13 * l := by rcases hal with e | ⟨j, j1, j2, e⟩ <;> omega
      -- one half: copied, a day, the courses behind
      have half : ∀ (M0 : qM) (rg : Bool), dif (B + 171) (B + 171 + 13 * (l + 1)) M M0 → ∃ M2 M3, dif (B + 171) (B + 171 + 13 * (l + 1)) M M3 ∧ qS M2 = qS M ∧ (∀ (d : Nat) o, Ev (d + 2) 150 [.ref (B + 171 + 13 * l), .ref a] M0 o = (o = (none, sB M0 (B + 171 + 13 * l) (w_copy (blk M0 (B + 171 + 13 * l)) (blk M0 a) n)))) ∧ (∀ (d : Nat) o, Ev (d + 5) 166 [.ref (B + 171 + 13 * l), .int (if rg = true then nI 1 else nI 0)] (sB M0 (B + 171 + 13 * l) (w_copy (blk M0 (B + 171 + 13 * l)) (blk M0 a) n)) o = (o = (some (.int (opI (goesG dm cl 616 n rg g).2)), M2))) ∧ ∀ (d : Nat) o, l ≤ d → Ev (d + 6) 42 [.ref (B + 169), .ref (B + 171 + 13 * l), .int (nI i), .int (nI l), .int (nI x)] M2 o = (o = (some (.int (nI (fcN dm cl n i x l (goesG dm cl 616 n rg g).1))), M3)) := fun M0 rg hd0 => by
        have hS0 : CS M0 B p := CS_of h hd0.1 hd0.2.2.2.1
        have hw0 : isWall M0 (B + 171 + 13 * l) := isWall_of hcw hd0.1 hd0.2.2.2.1
        have ha0' : isWall M0 a := isWall_of ha hd0.1 hd0.2.2.2.1
        have hsame : ∀ j k, j < 13 → blk M0 a j k = blk M a j k := fun j k hj => by
          refine hd0.2.2.2.2 (a + j) k ?_
          rcases hal with e | ⟨j', j1, j2, e⟩ <;> omega
        have q0 : AQ (blk M0 a) g 616 n rw cl bl dm := AQ_cg q hsame
        have q1 : AQ (w_copy (blk M0 (B + 171 + 13 * l)) (blk M0 a) n) g 616 n rw cl bl dm := AQ_copy q0
        have q2 := AQ_goes (rg := rg) q1
        have hcs2 : CS (sB M0 (B + 171 + 13 * l) (w_pass (w_copy (blk M0 (B + 171 + 13 * l)) (blk M0 a) n) n (rg = true)).1) B p := CS_of hS0 rfl rfl
        obtain ⟨M3, hd3, hev⟩ := ih (B + 171 + 13 * l) (sB M0 (B + 171 + 13 * l) (w_pass (w_copy (blk M0 (B + 171 + 13 * l)) (blk M0 a) n) n (rg = true)).1) (goesG dm cl 616 n rg g).1 (by omega) hcs2 hw0 (Or.inr ⟨l, by omega, by omega, rfl⟩) (AQ_cg q2 (fun j k hj => qI_sBj hj))
        refine ⟨sB M0 (B + 171 + 13 * l) (w_pass (w_copy (blk M0 (B + 171 + 13 * l)) (blk M0 a) n) n (rg = true)).1, M3, dif_trans hd0 (dif_trans (dif_sB (by omega)) (dif_mono hd3 (by omega))), hd0.1, fun d o => S_copy_M hw0 ha0' (by omega) q0.1.1.2.2.2.2 hn9, fun d o => ?_, hev⟩
        cases rg with
        | true => exact D_pass1 hw0 q1
        | false => exact D_pass0 hw0 q1
      have hle1 := fcN_le (dm := dm) (cl := cl) (n := n) (i := i) hx l (goesG dm cl 616 n true g).1
      have hle2 := fcN_le (dm := dm) (cl := cl) (n := n) (i := i) hx l (goesG dm cl 616 n false g).1
      by_cases cx : 0 < x
      · obtain ⟨M2, M3, hd3, s2, hcp, hpd, hfi⟩ := half M true dif_refl
        simp only [if_true] at hpd
        have m0 : qS M2 B = (1, 7) := by rw [s2]; exact n0
        have m1 : qS M2 (B + 171 + 13 * l) = (1, 5) := by rw [s2]; exact hc0
        have k0 : qS M3 B = (1, 7) := by rw [hd3.1]; exact n0
        have k1 : qS M3 (B + 171 + 13 * l) = (1, 5) := by rw [hd3.1]; exact hc0
        by_cases cy : x < 10
        · obtain ⟨M4, M5, hd5, s4, hcp5, hpd5, hfi5⟩ := half M3 false hd3
          simp only [Bool.false_eq_true, if_false] at hpd5
          have m4 : qS M4 B = (1, 7) := by rw [s4]; exact n0
          have m5 : qS M4 (B + 171 + 13 * l) = (1, 5) := by rw [s4]; exact hc0
          refine ⟨M5, hd5, fun d o hd => ?_⟩
          obtain ⟨d', rfl⟩ : ∃ d', d = d' + 1 := ⟨d - 1, by omega⟩
          rw [e0]
          simp (disch := first | omega | (simp (disch := omega) only [rf_some, qS_sB, qR_sB, qZ_sB, qI_sB0, qI_sB3, qI_sBn, pI_sB0, pI_sB3, pI_sBn, isWall_sB, exists_eq_left, Option.toList_some, Option.toList_none, List.cons_append, List.nil_append, if_true, if_false, qb_0, qb_q01, q01_1, q01_0, if_qb, if_qbn, if_qba, if_qbo, eq_self, true_or, or_true, and_self, true_and, and_true, not_true_eq_false, not_false_eq_true, vpi, ltI, eqI, eqI0, eqI4, nI_clamp, ite_not, vs_same, vs_ne, qrem_f, qabs_f, Nat.not_lt_zero, qS_bB, qR_bB, qZ_bB, qI_bB0, qI_bB, pI_bB0, pI_bB, isWall_bB, isItm_bB, isItm_sB, ltm, m1_lt, pk_mul, n0, n1, n2, n3, n4, n5, n6, n7, n8, n9, ha0, hsn, ha, hC, hCs, hc0, k0, k1, m0, m1, m4, m5]; done) | (simp (disch := omega) only [rf_some, qS_sB, qR_sB, qZ_sB, qI_sB0, qI_sB3, qI_sBn, pI_sB0, pI_sB3, pI_sBn, isWall_sB, exists_eq_left, Option.toList_some, Option.toList_none, List.cons_append, List.nil_append, if_true, if_false, qb_0, qb_q01, q01_1, q01_0, if_qb, if_qbn, if_qba, if_qbo, eq_self, true_or, or_true, and_self, true_and, and_true, not_true_eq_false, not_false_eq_true, vpi, ltI, eqI, eqI0, eqI4, nI_clamp, ite_not, vs_same, vs_ne, qrem_f, qabs_f, Nat.not_lt_zero, qS_bB, qR_bB, qZ_bB, qI_bB0, qI_bB, pI_bB0, pI_bB, isWall_bB, isItm_bB, isItm_sB, ltm, m1_lt, pk_mul, n0, n1, n2, n3, n4, n5, n6, n7, n8, n9, ha0, hsn, ha, hC, hCs, hc0, k0, k1, m0, m1, m4, m5]; omega)) only [e42, x42_0, x42_1, x42_2, x42_5, x42_8, x42_9, x42_12, x42_13, x42_14, x42_15, x42_16, x42_19, x42_20, x42_21, x42_22, x42_23, x42_24, x42_25, x42_28, x42_30, x42_32, x42_35, x42_36, x42_37, x42_38, x42_40, x42_42, x42_45, x42_47, x42_48, x42_51, x42_53, x42_54, x42_57, x42_57i, x42_58, x42_60, x42_62, x42_63, x42_65, x42_66, x42_67, x42_68, x42_69, x42_71, x42_74, x42_75, x42_76, x42_78, x42_80, x42_82, x42_85, x42_87, x42_88, x42_91, x42_93, x42_94, x42_97, x42_97i, x42_98, x42_100, x42_102, x42_104, x42_105, x42_106, x42_108, x42_109, x42_110, x42_111, x42_112, x42_114, x42_117, x42_118, x42_119, x42_121, x42_123, rf_some, qS_sB, qR_sB, qZ_sB, qI_sB0, qI_sB3, qI_sBn, pI_sB0, pI_sB3, pI_sBn, isWall_sB, exists_eq_left, Option.toList_some, Option.toList_none, List.cons_append, List.nil_append, if_true, if_false, qb_0, qb_q01, q01_1, q01_0, if_qb, if_qbn, if_qba, if_qbo, eq_self, true_or, or_true, and_self, true_and, and_true, not_true_eq_false, not_false_eq_true, vpi, ltI, eqI, eqI0, eqI4, nI_clamp, ite_not, vs_same, vs_ne, qrem_f, qabs_f, Nat.not_lt_zero, S_at, ha, show i < 9 by omega, hsn, f3', c, n7, hat, hcp, hpd, hcp5, hpd5, hfi, hfi5, cx, cy, pk_sub, Nat.add_sub_cancel, pk_mul, nI_add, Nat.zero_add, show ¬ l + 1 < 1 by omega, show l ≤ d' by omega]
        · have hx10 : x = 10 := by omega
          refine ⟨M3, hd3, fun d o hd => ?_⟩
          obtain ⟨d', rfl⟩ : ∃ d', d = d' + 1 := ⟨d - 1, by omega⟩
          rw [e0, show (10 - x) = 0 by omega, Nat.zero_mul]
          simp (disch := first | omega | (simp (disch := omega) only [rf_some, qS_sB, qR_sB, qZ_sB, qI_sB0, qI_sB3, qI_sBn, pI_sB0, pI_sB3, pI_sBn, isWall_sB, exists_eq_left, Option.toList_some, Option.toList_none, List.cons_append, List.nil_append, if_true, if_false, qb_0, qb_q01, q01_1, q01_0, if_qb, if_qbn, if_qba, if_qbo, eq_self, true_or, or_true, and_self, true_and, and_true, not_true_eq_false, not_false_eq_true, vpi, ltI, eqI, eqI0, eqI4, nI_clamp, ite_not, vs_same, vs_ne, qrem_f, qabs_f, Nat.not_lt_zero, qS_bB, qR_bB, qZ_bB, qI_bB0, qI_bB, pI_bB0, pI_bB, isWall_bB, isItm_bB, isItm_sB, ltm, m1_lt, pk_mul, n0, n1, n2, n3, n4, n5, n6, n7, n8, n9, ha0, hsn, ha, hC, hCs, hc0, k0, k1, m0, m1]; done) | (simp (disch := omega) only [rf_some, qS_sB, qR_sB, qZ_sB, qI_sB0, qI_sB3, qI_sBn, pI_sB0, pI_sB3, pI_sBn, isWall_sB, exists_eq_left, Option.toList_some, Option.toList_none, List.cons_append, List.nil_append, if_true, if_false, qb_0, qb_q01, q01_1, q01_0, if_qb, if_qbn, if_qba, if_qbo, eq_self, true_or, or_true, and_self, true_and, and_true, not_true_eq_false, not_false_eq_true, vpi, ltI, eqI, eqI0, eqI4, nI_clamp, ite_not, vs_same, vs_ne, qrem_f, qabs_f, Nat.not_lt_zero, qS_bB, qR_bB, qZ_bB, qI_bB0, qI_bB, pI_bB0, pI_bB, isWall_bB, isItm_bB, isItm_sB, ltm, m1_lt, pk_mul, n0, n1, n2, n3, n4, n5, n6, n7, n8, n9, ha0, hsn, ha, hC, hCs, hc0, k0, k1, m0, m1]; omega)) only [e42, x42_0, x42_1, x42_2, x42_5, x42_8, x42_9, x42_12, x42_13, x42_14, x42_15, x42_16, x42_19, x42_20, x42_21, x42_22, x42_23, x42_24, x42_25, x42_28, x42_30, x42_32, x42_35, x42_36, x42_37, x42_38, x42_40, x42_42, x42_45, x42_47, x42_48, x42_51, x42_53, x42_54, x42_57, x42_57i, x42_58, x42_60, x42_62, x42_63, x42_65, x42_66, x42_67, x42_68, x42_69, x42_71, x42_74, x42_75, x42_76, x42_78, x42_80, x42_82, x42_85, x42_87, x42_88, x42_91, x42_93, x42_94, x42_97, x42_97i, x42_98, x42_100, x42_102, x42_104, x42_105, x42_106, x42_108, x42_109, x42_110, x42_111, x42_112, x42_114, x42_117, x42_118, x42_119, x42_121, x42_123, rf_some, qS_sB, qR_sB, qZ_sB, qI_sB0, qI_sB3, qI_sBn, pI_sB0, pI_sB3, pI_sBn, isWall_sB, exists_eq_left, Option.toList_some, Option.toList_none, List.cons_append, List.nil_append, if_true, if_false, qb_0, qb_q01, q01_1, q01_0, if_qb, if_qbn, if_qba, if_qbo, eq_self, true_or, or_true, and_self, true_and, and_true, not_true_eq_false, not_false_eq_true, vpi, ltI, eqI, eqI0, eqI4, nI_clamp, ite_not, vs_same, vs_ne, qrem_f, qabs_f, Nat.not_lt_zero, S_at, ha, show i < 9 by omega, hsn, f3', c, n7, hat, hcp, hpd, hfi, cx, cy, pk_sub, Nat.add_sub_cancel, pk_mul, nI_add, Nat.zero_add, Nat.add_zero, show ¬ l + 1 < 1 by omega, show l ≤ d' by omega]
      · obtain ⟨M4, M5, hd5, s4, hcp5, hpd5, hfi5⟩ := half M false dif_refl
        simp only [Bool.false_eq_true, if_false] at hpd5
        have hx0 : x = 0 := by omega
        have m4 : qS M4 B = (1, 7) := by rw [s4]; exact n0
        have m5 : qS M4 (B + 171 + 13 * l) = (1, 5) := by rw [s4]; exact hc0
        refine ⟨M5, hd5, fun d o hd => ?_⟩
        obtain ⟨d', rfl⟩ : ∃ d', d = d' + 1 := ⟨d - 1, by omega⟩
        rw [e0, hx0, Nat.zero_mul, Nat.zero_add]
        rw [hx0] at hfi5
        simp (disch := first | omega | (simp (disch := omega) only [rf_some, qS_sB, qR_sB, qZ_sB, qI_sB0, qI_sB3, qI_sBn, pI_sB0, pI_sB3, pI_sBn, isWall_sB, exists_eq_left, Option.toList_some, Option.toList_none, List.cons_append, List.nil_append, if_true, if_false, qb_0, qb_q01, q01_1, q01_0, if_qb, if_qbn, if_qba, if_qbo, eq_self, true_or, or_true, and_self, true_and, and_true, not_true_eq_false, not_false_eq_true, vpi, ltI, eqI, eqI0, eqI4, nI_clamp, ite_not, vs_same, vs_ne, qrem_f, qabs_f, Nat.not_lt_zero, qS_bB, qR_bB, qZ_bB, qI_bB0, qI_bB, pI_bB0, pI_bB, isWall_bB, isItm_bB, isItm_sB, ltm, m1_lt, pk_mul, n0, n1, n2, n3, n4, n5, n6, n7, n8, n9, ha0, hsn, ha, hC, hCs, hc0, m4, m5]; done) | (simp (disch := omega) only [rf_some, qS_sB, qR_sB, qZ_sB, qI_sB0, qI_sB3, qI_sBn, pI_sB0, pI_sB3, pI_sBn, isWall_sB, exists_eq_left, Option.toList_some, Option.toList_none, List.cons_append, List.nil_append, if_true, if_false, qb_0, qb_q01, q01_1, q01_0, if_qb, if_qbn, if_qba, if_qbo, eq_self, true_or, or_true, and_self, true_and, and_true, not_true_eq_false, not_false_eq_true, vpi, ltI, eqI, eqI0, eqI4, nI_clamp, ite_not, vs_same, vs_ne, qrem_f, qabs_f, Nat.not_lt_zero, qS_bB, qR_bB, qZ_bB, qI_bB0, qI_bB, pI_bB0, pI_bB, isWall_bB, isItm_bB, isItm_sB, ltm, m1_lt, pk_mul, n0, n1, n2, n3, n4, n5, n6, n7, n8, n9, ha0, hsn, ha, hC, hCs, hc0, m4, m5]; omega)) only [e42, x42_0, x42_1, x42_2, x42_5, x42_8, x42_9, x42_12, x42_13, x42_14, x42_15, x42_16, x42_19, x42_20, x42_21, x42_22, x42_23, x42_24, x42_25, x42_28, x42_30, x42_32, x42_35, x42_36, x42_37, x42_38, x42_40, x42_42, x42_45, x42_47, x42_48, x42_51, x42_53, x42_54, x42_57, x42_57i, x42_58, x42_60, x42_62, x42_63, x42_65, x42_66, x42_67, x42_68, x42_69, x42_71, x42_74, x42_75, x42_76, x42_78, x42_80, x42_82, x42_85, x42_87, x42_88, x42_91, x42_93, x42_94, x42_97, x42_97i, x42_98, x42_100, x42_102, x42_104, x42_105, x42_106, x42_108, x42_109, x42_110, x42_111, x42_112, x42_114, x42_117, x42_118, x42_119, x42_121, x42_123, rf_some, qS_sB, qR_sB, qZ_sB, qI_sB0, qI_sB3, qI_sBn, pI_sB0, pI_sB3, pI_sBn, isWall_sB, exists_eq_left, Option.toList_some, Option.toList_none, List.cons_append, List.nil_append, if_true, if_false, qb_0, qb_q01, q01_1, q01_0, if_qb, if_qbn, if_qba, if_qbo, eq_self, true_or, or_true, and_self, true_and, and_true, not_true_eq_false, not_false_eq_true, vpi, ltI, eqI, eqI0, eqI4, nI_clamp, ite_not, vs_same, vs_ne, qrem_f, qabs_f, Nat.not_lt_zero, S_at, ha, show i < 9 by omega, hsn, f3', c, n7, hat, hcp5, hpd5, hfi5, show ¬ (0:Nat) < 0 by omega, show (0:Nat) < 10 by omega, pk_sub, Nat.add_sub_cancel, pk_mul, nI_add, Nat.zero_add, show ¬ l + 1 < 1 by omega, show l ≤ d' by omega]
end QSK
