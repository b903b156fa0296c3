/-! ===== THE FIRST WALL'S TEXT ===== -/
def ft (k : Nat) : Nat := q_txt.getD k 0
def IQ (u : qV) (g : Nat → Nat) (n bl : Nat) (dm : Nat → Nat) : Prop := RW u g 0 n 4 5 bl dm ∧ n ≤ 9 ∧ GB g 0 ∧ UN g 0 n ∧ CP g 0 n ∧ g 55 = 0 ∧ ∀ c, c < 6 → dm c ≤ 9
section QFT
variable {d n p q bl s c dp yr x : Nat} {u v : qV} {g dm : Nat → Nat}
theorem IQ_wOK (h : IQ u g n bl dm) : nO u = n ∧ rO u = 4 ∧ cO u = 5 := by
  obtain ⟨⟨⟨h1, h2, h3, h4, h5⟩, _⟩, hn, _⟩ := h
  exact wOK_O (n := n) (rw := 4) (cl := 5) ⟨h5, hn, h1, h2, by omega, by omega, by omega⟩
theorem F_one {xs : List Nat} {u' : qV} (hq : IQ u g n bl dm) (hp : p < 82) (hl : r_lst ft 4 (p + 1) = some (xs, q)) {b : Bool} (ht : i_take (ft p) u (fun k => xs.getD k 0) xs.length n 4 5 b = some u') (k : Nat) : i_read ft 82 (k + 1) p u b = i_read ft 82 k q u' (b && decide (ft p = 119)) := by
  obtain ⟨e1, e2, e3⟩ := IQ_wOK hq
  have : i_one ft p u b = some (u', b && decide (ft p = 119), q) := by
    unfold i_one
    rw [hl, e1, e2, e3]
    show (match i_take (ft p) u (fun k => xs.getD k 0) xs.length n 4 5 b with | none => none | some u' => some (u', b && decide (ft p = 119), q)) = _
    rw [ht]
  show (if p < 82 then _ else _) = _
  rw [if_pos hp, this]
theorem F_nail (hq : IQ u g n bl dm) (hn : n < 9) (hp : p < 82) (h1 : ft p = 110) (hl : r_lst ft 4 (p + 1) = some ([s, c, dp, yr], q)) (hs : s < 5) (hc : c < 20) (hd : 1 ≤ dp ∧ dp ≤ cap s) (hd2 : dp ≤ 9) (hy : yr ≤ 63) (hin : insG g 0 c n 0 = none) : ∃ u', IQ u' (addsG g 0 s c dp yr) (n + 1) bl dm ∧ ∀ (k : Nat) b, i_read ft 82 (k + 1) p u b = i_read ft 82 k q u' false := by
  obtain ⟨q1, q2, q3, q4, q5, q6, q7⟩ := id hq
  have g0 : g 0 = n := q1.2.1
  refine ⟨w_add u n (n_new (fun k => [s, c, dp, yr].getD k 0) 5), ⟨tie_add q1 hn, by omega, GB_add q3 g0 hn (by omega) (by omega) (by omega) hy, UN_add q4 g0 hn hin, CP_add q5 g0 hn hd.2, by rw [addsG_ne g0 (by omega)]; exact q6, q7⟩, fun k b => ?_⟩
  have hfr := (tie_free q1 q2 q3 (show c < 100 by omega)).mpr hin
  have ht : i_take (ft p) u (fun k => [s, c, dp, yr].getD k 0) 4 n 4 5 b = some (w_add u n (n_new (fun k => [s, c, dp, yr].getD k 0) 5)) := by
    rw [h1]
    show (if t_nail u (fun k => [s, c, dp, yr].getD k 0) 4 n 4 5 then _ else _) = _
    exact if_pos ⟨rfl, hn, hs, hc, hfr, hd, hy⟩
  rw [F_one hq hp hl ht, h1, show decide (110 = 119) = false from rfl, Bool.and_false]
theorem F_damp (hq : IQ u g n bl dm) (hp : p < 82) (h1 : ft p = 100) (hl : r_lst ft 4 (p + 1) = some ([c, x], q)) (hc : c < 5) (hx : x ≤ 9) : ∃ u', IQ u' g n bl (fun k => if k = c then x else dm k) ∧ ∀ (k : Nat) b, i_read ft 82 (k + 1) p u b = i_read ft 82 k q u' false := by
  obtain ⟨⟨⟨r1, r2, r3, r4, r5⟩, r6, r7, r8⟩, q2, q3, q4, q5, q6, q7⟩ := id hq
  refine ⟨vs u 3 c (nI x), ⟨⟨⟨(vs_ne (by omega)).trans r1, (vs_ne (by omega)).trans r2, (vs_ne (by omega)).trans r3, (vs_ne (by omega)).trans r4, (vs_ne (by omega)).trans r5⟩, r6, fun k hk => ?_, fun i hi => ?_⟩, q2, q3, q4, q5, q6, fun k hk => ?_⟩, fun k b => ?_⟩
  · show _ = nI (if k = c then x else dm k)
    by_cases e : k = c
    · rw [e, vs_same, if_pos rfl]
    · rw [vs_ne (by omega), if_neg e]; exact r7 k hk
  · rw [vs_ne (by omega), vs_ne (by omega), vs_ne (by omega), vs_ne (by omega), vs_ne (by omega), vs_ne (by omega), vs_ne (by omega)]
    exact r8 i hi
  · show (if k = c then x else dm k) ≤ 9
    split
    · exact hx
    · exact q7 k hk
  · have ht : i_take (ft p) u (fun k => [c, x].getD k 0) 2 n 4 5 b = some (vs u 3 c (nI x)) := by
      rw [h1]
      show (if t_damp (fun k => [c, x].getD k 0) 2 5 then _ else _) = _
      exact if_pos ⟨rfl, hc, hx⟩
    rw [F_one hq hp hl ht, h1, show decide (100 = 119) = false from rfl, Bool.and_false]
theorem F_bell (hq : IQ u g n bl dm) (hp : p < 82) (h1 : ft p = 98) (hl : r_lst ft 4 (p + 1) = some ([x], q)) (hx : 1 ≤ x ∧ x ≤ 30) : ∃ u', IQ u' g n x dm ∧ ∀ (k : Nat) b, i_read ft 82 (k + 1) p u b = i_read ft 82 k q u' false := by
  obtain ⟨⟨⟨r1, r2, r3, r4, r5⟩, r6, r7, r8⟩, q2, q3, q4, q5, q6, q7⟩ := id hq
  refine ⟨vs u 0 5 (nI x), ⟨⟨⟨(vs_ne (by omega)).trans r1, (vs_ne (by omega)).trans r2, vs_same, (vs_ne (by omega)).trans r4, (vs_ne (by omega)).trans r5⟩, r6, fun k hk => (vs_ne (by omega)).trans (r7 k hk), fun i hi => ?_⟩, q2, q3, q4, q5, q6, q7⟩, fun k b => ?_⟩
  · rw [vs_ne (by omega), vs_ne (by omega), vs_ne (by omega), vs_ne (by omega), vs_ne (by omega), vs_ne (by omega), vs_ne (by omega)]
    exact r8 i hi
  · have ht : i_take (ft p) u (fun k => [x].getD k 0) 1 n 4 5 b = some (vs u 0 5 (nI x)) := by
      rw [h1]
      show (if t_bell (fun k => [x].getD k 0) 1 then _ else _) = _
      exact if_pos ⟨rfl, hx⟩
    rw [F_one hq hp hl ht, h1, show decide (98 = 119) = false from rfl, Bool.and_false]
theorem F_wall (hq : IQ u g n bl dm) (hp : p < 82) (h1 : ft p = 119) (hl : r_lst ft 4 (p + 1) = some ([4, 5], q)) : ∃ u', IQ u' g n bl dm ∧ ∀ (k : Nat), i_read ft 82 (k + 1) p u true = i_read ft 82 k q u' true := by
  obtain ⟨⟨⟨r1, r2, r3, r4, r5⟩, r6, r7, r8⟩, q2, q3, q4, q5, q6, q7⟩ := id hq
  refine ⟨vs (vs u 0 3 (nI 4)) 0 4 (nI 5), ⟨⟨⟨(vs_ne (by omega)).trans vs_same, vs_same, (vs_ne (by omega)).trans ((vs_ne (by omega)).trans r3), (vs_ne (by omega)).trans ((vs_ne (by omega)).trans r4), (vs_ne (by omega)).trans ((vs_ne (by omega)).trans r5)⟩, r6, fun k hk => (vs_ne (by omega)).trans ((vs_ne (by omega)).trans (r7 k hk)), fun i hi => ?_⟩, q2, q3, q4, q5, q6, q7⟩, fun k => ?_⟩
  · simp (disch := omega) only [vs_ne]
    exact r8 i hi
  · have ht : i_take (ft p) u (fun k => [4, 5].getD k 0) 2 n 4 5 true = some (vs (vs u 0 3 (nI 4)) 0 4 (nI 5)) := by
      rw [h1]
      show (if t_wall (fun k => [4, 5].getD k 0) 2 (true = true) then some (vs (vs u 0 3 (nI 4)) 0 4 (nI 5)) else none) = _
      exact if_pos ⟨rfl, rfl, by decide, by decide⟩
    rw [F_one hq hp hl ht, h1]; rfl
def g_1 : Nat → Nat := addsG (fun _ => 0) 0 0 0 6 1
def g_2 : Nat → Nat := addsG g_1 0 1 1 5 2
def g_3 : Nat → Nat := addsG g_2 0 2 6 4 12
def g_4 : Nat → Nat := addsG g_3 0 3 7 2 16
def g_5 : Nat → Nat := addsG g_4 0 4 12 7 33
def g_6 : Nat → Nat := addsG g_5 0 0 13 3 8
def dm_1 : Nat → Nat := fun k => if k = 0 then 2 else if k = 1 then 3 else if k = 2 then 4 else 1
theorem F_all (u : qV) : ∃ u', IQ u' g_6 6 5 dm_1 ∧ i_read ft 82 200 0 (w_clear u) true = (none, u') := by
  have q0 : IQ (w_clear u) (fun _ => 0) 0 7 (fun _ => 1) := ⟨tie_clear rfl rfl, by omega, fun _ _ => (by decide : (0:Nat) ≤ 4 ∧ 0 < 36 ∧ 0 ≤ 1000 ∧ 0 ≤ 9 ∧ 0 ≤ 63), fun i j hi => by omega, fun i hi => by omega, rfl, fun _ _ => (by decide : (1:Nat) ≤ 9)⟩
  obtain ⟨u1, q1, h1⟩ := F_wall (p := 0) (q := 5) q0 (by decide) (by decide) (by decide)
  obtain ⟨u2, q2, h2⟩ := F_nail (p := 5) (q := 14) q1 (by decide) (by decide) (by decide) (by decide : r_lst ft 4 6 = some ([0, 0, 6, 1], 14)) (by decide) (by decide) (by decide) (by decide) (by decide) (by decide)
  obtain ⟨u3, q3, h3⟩ := F_nail (p := 14) (q := 23) q2 (by decide) (by decide) (by decide) (by decide : r_lst ft 4 15 = some ([1, 1, 5, 2], 23)) (by decide) (by decide) (by decide) (by decide) (by decide) (by decide)
  obtain ⟨u4, q4, h4⟩ := F_nail (p := 23) (q := 33) q3 (by decide) (by decide) (by decide) (by decide : r_lst ft 4 24 = some ([2, 6, 4, 12], 33)) (by decide) (by decide) (by decide) (by decide) (by decide) (by decide)
  obtain ⟨u5, q5, h5⟩ := F_nail (p := 33) (q := 43) q4 (by decide) (by decide) (by decide) (by decide : r_lst ft 4 34 = some ([3, 7, 2, 16], 43)) (by decide) (by decide) (by decide) (by decide) (by decide) (by decide)
  obtain ⟨u6, q6, h6⟩ := F_nail (p := 43) (q := 54) q5 (by decide) (by decide) (by decide) (by decide : r_lst ft 4 44 = some ([4, 12, 7, 33], 54)) (by decide) (by decide) (by decide) (by decide) (by decide) (by decide)
  obtain ⟨u7, q7, h7⟩ := F_nail (p := 54) (q := 64) q6 (by decide) (by decide) (by decide) (by decide : r_lst ft 4 55 = some ([0, 13, 3, 8], 64)) (by decide) (by decide) (by decide) (by decide) (by decide) (by decide)
  obtain ⟨u8, q8, h8⟩ := F_damp (p := 64) (q := 69) q7 (by decide) (by decide) (by decide : r_lst ft 4 65 = some ([0, 2], 69)) (by decide) (by decide)
  obtain ⟨u9, q9, h9⟩ := F_damp (p := 69) (q := 74) q8 (by decide) (by decide) (by decide : r_lst ft 4 70 = some ([1, 3], 74)) (by decide) (by decide)
  obtain ⟨u10, q10, h10⟩ := F_damp (p := 74) (q := 79) q9 (by decide) (by decide) (by decide : r_lst ft 4 75 = some ([2, 4], 79)) (by decide) (by decide)
  obtain ⟨u11, q11, h11⟩ := F_bell (p := 79) (q := 82) q10 (by decide) (by decide) (by decide : r_lst ft 4 80 = some ([5], 82)) (by decide)
  refine ⟨u11, ?_, ?_⟩
  · obtain ⟨⟨a1, a2, a3, a4⟩, a5, a6, a7, a8, a9, a10⟩ := q11
    refine ⟨⟨a1, a2, fun c hc => (a3 c hc).trans (congrArg nI ?_), a4⟩, a5, a6, a7, a8, a9, fun c hc => ?_⟩
    · exact (by decide : ∀ c, c < 6 → (if c = 2 then 4 else if c = 1 then 3 else if c = 0 then 2 else 1) = dm_1 c) c hc
    · exact (by decide : ∀ c, c < 6 → dm_1 c ≤ 9) c hc
  · rw [h1 199, h2 198, h3 197, h4 196, h5 195, h6 194, h7 193, h8 192, h9 191, h10 190, h11 189]
    show (if 82 < 82 then _ else _) = _
    rw [if_neg (by decide)]
end QFT
