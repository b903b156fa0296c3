/-! ===== THE CLASS'S MEMORY ===== -/
/-- ints alone have changed, and none but from B on, 289 cells long -/
def smo (B : Nat) (M M' : qM) : Prop := qS M' = qS M ∧ qZ M' = qZ M ∧ qT M' = qT M ∧ (∀ x k, x < B ∨ B + 289 ≤ x → qI M' x k = qI M x k) ∧ ∀ x k, x < B ∨ B + 289 ≤ x → qR M' x k = qR M x k
def CS (M : qM) (B : Nat) (p : Nat → Nat) : Prop := (qS M B = (1, 7) ∧ qR M B 0 = some (B + 1) ∧ qR M B 1 = some (B + 3) ∧ qR M B 2 = some (B + 7) ∧ qR M B 3 = some (B + 22) ∧ qR M B 4 = some (B + 35) ∧ qR M B 5 = some (B + 141) ∧ qR M B 6 = some (B + 169) ∧ qR M B 7 = some (B + 275) ∧ qR M B 8 = some (B + 279)) ∧ (qS M (B + 1) = (1, 4) ∧ qS M (B + 2) = (2, 200) ∧ qR M (B + 1) 0 = some (B + 2)) ∧ isItm M (B + 3) ∧ isWall M (B + 7) ∧ isWall M (B + 22) ∧ isWs M (B + 35) 8 p ∧ isWs M (B + 141) 2 (fun k => B + 143 + 13 * k) ∧ isWs M (B + 169) 8 (fun k => B + 171 + 13 * k) ∧ isMe M (B + 275) ∧ isGp M (B + 279) ∧ (∀ k, k < 8 → ∃ j, j < 8 ∧ p k = B + 37 + 13 * j) ∧ ∀ k l, k < 8 → l < 8 → p k = p l → k = l
def BK (u : qV) (g : Nat → Nat) (b rw cl bl : Nat) (dm : Nat → Nat) (D : Nat) : Prop := ∃ n, RW u g b n rw cl bl dm ∧ n ≤ 9 ∧ GB g b ∧ UN g b n ∧ g (b + 55) ≤ D ∧ CP g b n
/-- what the class holds: the slots g, past a, kept kp, the text lt of L letters, s measured -/
def CD (M : qM) (B : Nat) (p g : Nat → Nat) (rw cl bl : Nat) (dm : Nat → Nat) (a kp : Nat) (lt : Nat → Nat) (L s : Nat) (w tt dp : Nat → Nat) (D : Nat) : Prop := BK (blk M (B + 7)) g 0 rw cl bl dm D ∧ (qI M (B + 35) 1 = nI a ∧ a ≤ 8 ∧ ∀ k, k < a → BK (blk M (p k)) g ((k + 1) * 56) rw cl bl dm D) ∧ (qI M (B + 141) 1 = nI kp ∧ kp ≤ 2 ∧ ∀ k, k < kp → BK (blk M (B + 143 + 13 * k)) g ((9 + k) * 56) rw cl bl dm D) ∧ (qI M (B + 1) 1 = nI L ∧ L ≤ 200 ∧ (∀ k, k < L → qI M (B + 2) k = nI (lt k)) ∧ (∀ k, L ≤ k → lt k = 0) ∧ ∀ k, lt k < 127) ∧ hasMe M (B + 275) s w tt dp ∧ (∀ t, t < 64 → qI M (B + 279 + 9) t = nI 0) ∧ (2 ≤ rw ∧ rw ≤ 6) ∧ (2 ≤ cl ∧ cl ≤ 6) ∧ (0 < bl ∧ bl ≤ 30) ∧ ∀ c, c < 6 → dm c ≤ 9
/-- the cells that CD speaks of -/
def cor (B x : Nat) : Prop := (B + 1 ≤ x ∧ x < B + 3) ∨ (B + 7 ≤ x ∧ x < B + 20) ∨ (B + 35 ≤ x ∧ x < B + 169) ∨ (B + 275 ≤ x ∧ x < B + 279) ∨ x = B + 288
section QCL
variable {d B a b b' i n N W rw cl bl L s kp D D' : Nat} {M M' M'' : qM} {u v : qV} {o : qOut} {x y : Int32} {p g g' dm lt w tt dp : Nat → Nat}
theorem smo_refl : smo B M M := ⟨rfl, rfl, rfl, fun _ _ _ => rfl, fun _ _ _ => rfl⟩
theorem smo_trans (h : smo B M M') (h' : smo B M' M'') : smo B M M'' := ⟨h'.1.trans h.1, h'.2.1.trans h.2.1, h'.2.2.1.trans h.2.2.1, fun x k hx => (h'.2.2.2.1 x k hx).trans (h.2.2.2.1 x k hx), fun x k hx => (h'.2.2.2.2 x k hx).trans (h.2.2.2.2 x k hx)⟩
theorem smo_sB (h : B ≤ a ∧ a + 13 ≤ B + 289) : smo B M (sB M a v) := ⟨rfl, rfl, rfl, fun x k hx => qI_sBx (by omega), fun _ _ _ => rfl⟩
theorem smo_bB {z : Nat} (h : B ≤ a ∧ a + z ≤ B + 289) : smo B M (bB M a z v) := ⟨rfl, rfl, rfl, fun x k hx => qI_bBx (by omega), fun _ _ _ => rfl⟩
theorem smo_pI {k : Nat} (h : B ≤ a ∧ a < B + 289) : smo B M (pI M a k x) := ⟨rfl, rfl, rfl, fun x' k' hx => if_neg (by omega), fun _ _ _ => rfl⟩
theorem isWall_of (h : isWall M a) (hS : qS M' = qS M) (hR : qR M' = qR M) : isWall M' a := by unfold isWall at *; rw [hS, hR]; exact h
theorem isItm_of (h : isItm M a) (hS : qS M' = qS M) (hR : qR M' = qR M) : isItm M' a := by unfold isItm at *; rw [hS, hR]; exact h
theorem isMe_of (h : isMe M a) (hS : qS M' = qS M) (hR : qR M' = qR M) : isMe M' a := by unfold isMe at *; rw [hS, hR]; exact h
theorem isGp_of (h : isGp M a) (hS : qS M' = qS M) (hR : qR M' = qR M) : isGp M' a := by unfold isGp at *; rw [hS, hR]; exact h
theorem isWs_of (h : isWs M W N p) (hS : qS M' = qS M) (hR : qR M' = qR M) : isWs M' W N p := by
  obtain ⟨h1, h2, h3, h4, h5, h6⟩ := h
  exact ⟨by rw [hS]; exact h1, by rw [hS]; exact h2, by rw [hR]; exact h3, fun k hk => by rw [hR]; exact h4 k hk, fun k hk => isWall_of (h5 k hk) hS hR, h6⟩
theorem CS_of (h : CS M B p) (hS : qS M' = qS M) (hR : qR M' = qR M) : CS M' B p := by
  obtain ⟨h1, h2, h3, h4, h5, h6, h7, h8, h9, h10, h11, h12⟩ := h
  refine ⟨by rw [hS, hR]; exact h1, by rw [hS, hR]; exact h2, isItm_of h3 hS hR, isWall_of h4 hS hR, isWall_of h5 hS hR, isWs_of h6 hS hR, isWs_of h7 hS hR, isWs_of h8 hS hR, isMe_of h9 hS hR, isGp_of h10 hS hR, h11, h12⟩
theorem blk_congr (h : ∀ j k, j < 13 → qI M' (a + j) k = qI M (a + j) k) : ∀ j k, j < 13 → blk M' a j k = blk M a j k := h
theorem RW_cg {n : Nat} (h : RW u g b n rw cl bl dm) (hn : n ≤ 9) (e : ∀ j k, j < 13 → v j k = u j k) : RW v g b n rw cl bl dm := by
  obtain ⟨⟨h1, h2, h3, h4, h5⟩, h6, h7, h8⟩ := h
  refine ⟨⟨(e 0 3 (by omega)).trans h1, (e 0 4 (by omega)).trans h2, (e 0 5 (by omega)).trans h3, (e 0 6 (by omega)).trans h4, (e 0 7 (by omega)).trans h5⟩, h6, fun c hc => (e 3 c (by omega)).trans (h7 c hc), fun i hi => ?_⟩
  rw [e _ _ (by omega), e _ _ (by omega), e _ _ (by omega), e _ _ (by omega), e _ _ (by omega), e _ _ (by omega), e _ _ (by omega)]
  exact h8 i hi
theorem BK_cg (h : BK u g b rw cl bl dm D) (e : ∀ j k, j < 13 → v j k = u j k) : BK v g b rw cl bl dm D := by
  obtain ⟨n, h1, h2, h3⟩ := h
  exact ⟨n, RW_cg h1 h2 e, h2, h3⟩
theorem BK_mv (h : BK u g b rw cl bl dm D) (e : sameB g b g' b') : BK u g' b' rw cl bl dm D := by
  obtain ⟨n, h1, h2, h3, h4, h5⟩ := h
  exact ⟨n, RW_mv h1 h2 e, h2, GB_mv h3 e, UN_mv h4 h2 e, by rw [e 55 (by omega)]; exact h5.1, CP_mv h5.2 h2 e⟩
theorem BK_up (h : BK u g b rw cl bl dm D) (hD : D ≤ D') : BK u g b rw cl bl dm D' := by
  obtain ⟨n, h1, h2, h3, h4, h5⟩ := h
  exact ⟨n, h1, h2, h3, h4, Nat.le_trans h5.1 hD, h5.2⟩
theorem CD_up (h : CD M B p g rw cl bl dm a kp lt L s w tt dp D) (hD : D ≤ D') : CD M B p g rw cl bl dm a kp lt L s w tt dp D' := by
  obtain ⟨h1, ⟨h2, h3, h4⟩, ⟨h5, h6, h7⟩, h8⟩ := h
  exact ⟨BK_up h1 hD, ⟨h2, h3, fun k hk => BK_up (h4 k hk) hD⟩, ⟨h5, h6, fun k hk => BK_up (h7 k hk) hD⟩, h8⟩
theorem CD_of (h : CD M B p g rw cl bl dm a kp lt L s w tt dp D) (hp : ∀ k, k < 8 → ∃ j, j < 8 ∧ p k = B + 37 + 13 * j) (e : ∀ x k, cor B x → qI M' x k = qI M x k) : CD M' B p g rw cl bl dm a kp lt L s w tt dp D := by
  obtain ⟨h1, ⟨h2, h3, h4⟩, ⟨h5, h6, h7⟩, ⟨h8, h9, h10, h11, h12⟩, ⟨h13, h14, h15⟩, h16, h17⟩ := h
  refine ⟨BK_cg h1 (fun j k hj => e _ _ (by unfold cor; omega)), ⟨(e _ _ (by unfold cor; omega)).trans h2, h3, fun k hk => BK_cg (h4 k hk) (fun j k' hj => e _ _ ?_)⟩, ⟨(e _ _ (by unfold cor; omega)).trans h5, h6, fun k hk => BK_cg (h7 k hk) (fun j k' hj => e _ _ (by unfold cor; omega))⟩, ⟨(e _ _ (by unfold cor; omega)).trans h8, h9, fun k hk => (e _ _ (by unfold cor; omega)).trans (h10 k hk), h11, h12⟩, ⟨(e _ _ (by unfold cor; omega)).trans h13, h14, fun i hi => ?_⟩, fun t ht => (e _ _ (by unfold cor; omega)).trans (h16 t ht), h17⟩
  · obtain ⟨q, hq, hpq⟩ := hp k (by omega)
    unfold cor
    omega
  · rw [e _ _ (by unfold cor; omega), e _ _ (by unfold cor; omega), e _ _ (by unfold cor; omega)]
    exact h15 i hi
/-- CD speaks of slots below 616 alone -/
theorem CD_g (h : CD M B p g rw cl bl dm a kp lt L s w tt dp D) (e : ∀ k, k < 616 → g' k = g k) : CD M B p g' rw cl bl dm a kp lt L s w tt dp D := by
  obtain ⟨h1, ⟨h2, h3, h4⟩, ⟨h5, h6, h7⟩, h8⟩ := h
  exact ⟨BK_mv h1 (fun j hj => e _ (by omega)), ⟨h2, h3, fun k hk => BK_mv (h4 k hk) (fun j hj => e _ (by omega))⟩, ⟨h5, h6, fun k hk => BK_mv (h7 k hk) (fun j hj => e _ (by omega))⟩, h8⟩
/-! a wall copied -/
theorem cp_hd {k : Nat} : w_copy v u n 0 k = w_cp0 v u 0 k := by
  unfold w_copy
  have h1 : (lp (fun c w => vs w 3 c (u 3 c)) 6 0 (w_cp0 v u)) 0 k = w_cp0 v u 0 k := lp_hd (P := fun w : qV => w 0 k = w_cp0 v u 0 k) (fun c w h => by rw [vs_ne (by omega)]; exact h) _ _ _ rfl
  exact lp_hd (P := fun w : qV => w 0 k = w_cp0 v u 0 k) (fun i w h => by rw [n_set_ne (by omega)]; exact h) _ _ _ h1
theorem cp_dm {c : Nat} (hc : c < 6) : w_copy v u n 3 c = u 3 c := by
  unfold w_copy
  have h1 : (lp (fun c w => vs w 3 c (u 3 c)) 6 0 (w_cp0 v u)) 3 c = u 3 c := by
    have := lp_ind (P := fun k (w : qV) => ∀ c, c < k → w 3 c = u 3 c) (f := fun c w => vs w 3 c (u 3 c)) (n := 6) (fun i w hi hw c hc => by
      by_cases e : c = i
      · rw [e, vs_same]
      · rw [vs_ne (by omega)]; exact hw c (by omega)) 6 0 (w_cp0 v u) (by omega) (fun c hc => by omega)
    exact this c hc
  exact lp_hd (P := fun w : qV => w 3 c = u 3 c) (fun i w h => by rw [n_set_ne (by omega)]; exact h) _ _ _ h1
theorem cp_nl {k : Nat} (hi : i < n) (hk : k < 7) : w_copy v u n (4 + i) k = u (4 + i) k := by
  unfold w_copy
  have := lp_ind (P := fun q (w : qV) => ∀ i, i < q → w (4 + i) k = u (4 + i) k) (f := fun i w => n_set w (4 + i) (u (4 + i))) (n := n) (fun q w hq hw i hi => by
    by_cases e : i = q
    · rw [e, n_set_at hk]
    · rw [n_set_ne (by omega)]; exact hw i (by omega)) n 0 (lp (fun c w => vs w 3 c (u 3 c)) 6 0 (w_cp0 v u)) (by omega) (fun i hi => by omega)
  exact this i hi
theorem RW_copy (h : RW u g b n rw cl bl dm) : RW (w_copy v u n) g b n rw cl bl dm := by
  obtain ⟨⟨h1, h2, h3, h4, h5⟩, h6, h7, h8⟩ := h
  refine ⟨⟨cp_hd.trans h1, cp_hd.trans h2, cp_hd.trans h3, cp_hd.trans h4, cp_hd.trans h5⟩, h6, fun c hc => (cp_dm hc).trans (h7 c hc), fun i hi => ?_⟩
  rw [cp_nl hi (by omega), cp_nl hi (by omega), cp_nl hi (by omega), cp_nl hi (by omega), cp_nl hi (by omega), cp_nl hi (by omega), cp_nl hi (by omega)]
  exact h8 i hi
/-- the blocks of known -/
theorem kn_0 (ha : a ≤ 8) : sameB g 0 (knG g a) 0 := fun j hj => by rw [Nat.zero_add]; exact knG_lo hj
theorem kn_kept {k : Nat} (ha : a ≤ 8) (hk : k < 2) : sameB g ((9 + k) * 56) (knG g a) ((9 + k) * 56) := fun j hj => by
  unfold knG cpG knA
  by_cases c : a = 8
  · rw [if_pos c, if_pos c, if_neg (by omega)]
    unfold shG
    rw [if_neg (by omega)]
  · rw [if_neg c, if_neg c, if_neg (by omega)]
theorem kn_new (ha : a < 8) : sameB g 0 (knG g a) ((a + 1) * 56) := fun j hj => by
  have e : knG g a = cpG g 0 ((a + 1) * 56) 56 := by unfold knG; rw [show knA a = a + 1 from if_neg (by omega), if_neg (show ¬ a = 8 by omega)]
  rw [e]
  unfold cpG
  rw [if_pos (by omega)]
  exact congrArg g (by omega)
theorem kn_old {k : Nat} (ha : a < 8) (hk : k < a) : sameB g ((k + 1) * 56) (knG g a) ((k + 1) * 56) := fun j hj => by
  have e : knG g a = cpG g 0 ((a + 1) * 56) 56 := by unfold knG; rw [show knA a = a + 1 from if_neg (by omega), if_neg (show ¬ a = 8 by omega)]
  rw [e]
  unfold cpG
  rw [if_neg (by omega)]
theorem knG_8 : knG g 8 = cpG (shG g 448) 0 448 56 := rfl
theorem kn_new8 : sameB g 0 (knG g 8) (8 * 56) := fun j hj => by
  rw [knG_8]
  unfold cpG
  rw [if_pos (by omega)]
  unfold shG
  rw [if_neg (by omega)]
  exact congrArg g (by omega)
theorem kn_old8 {k : Nat} (hk : k < 7) : sameB g ((k + 2) * 56) (knG g 8) ((k + 1) * 56) := fun j hj => by
  rw [knG_8]
  unfold cpG
  rw [if_neg (by omega)]
  unfold shG
  rw [if_pos (by omega)]
  exact congrArg g (by omega)
end QCL
