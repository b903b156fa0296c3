/-! ===== THE REFERENCE READS WHAT THE CLASS READS ===== -/
def RDI (u v : qV) (g lt : Nat → Nat) (L p : Nat) (b : Bool) : Prop := ∃ rw cl bl dm n, RT v lt L rw cl bl dm (!b) p ∧ RW u g 616 n rw cl bl dm ∧ n ≤ 9 ∧ (2 ≤ rw ∧ rw ≤ 6) ∧ (2 ≤ cl ∧ cl ≤ 6) ∧ (0 < bl ∧ bl ≤ 30) ∧ (∀ c, c < 6 → dm c ≤ 9) ∧ GB g 616 ∧ UN g 616 n ∧ (b = true → n = 0) ∧ g (616 + 55) = 0 ∧ CP g 616 n
section QRT
variable {d R a i j n b cl bl rw c L s D N t m r q p lo hi : Nat} {M : qM} {v u : qV} {g al mo dm tt dp lt : Nat → Nat} {o : qOut} {x y : Int32} {bb : Bool}
theorem RW_O (h : RW u g b n rw cl bl dm) (hn : n ≤ 9) (hr : rw ≤ 6) (hc : cl ≤ 6) : nO u = n ∧ rO u = rw ∧ cO u = cl := by
  obtain ⟨⟨h1, h2, h3, h4, h5⟩, h6⟩ := h
  unfold nO rO cO
  rw [h1, h2, h5, nI_clamp (by omega), nI_clamp (by omega), nI_clamp (by omega)]
  exact ⟨rfl, rfl, rfl⟩
theorem i_one_f {xs : List Nat} (h : RW u g b n rw cl bl dm) (hn : n ≤ 9) (hr : rw ≤ 6) (hc : cl ≤ 6) (hl : r_lst lt 4 (p + 1) = some (xs, q)) : i_one lt p u bb = match i_take (lt p) u (fun k => xs.getD k 0) xs.length n rw cl bb with
    | none => none
    | some u' => some (u', bb && decide (lt p = 119), q) := by
  obtain ⟨e1, e2, e3⟩ := RW_O h hn hr hc
  unfold i_one
  rw [hl, e1, e2, e3]
  rfl
theorem i_one_n (hl : r_lst lt 4 (p + 1) = none) : i_one lt p u bb = none := by
  unfold i_one
  rw [hl]
/-- what an item of the class is -/
theorem i_one_inv {r : qV × Bool × Nat} (h : RW u g b n rw cl bl dm) (hn : n ≤ 9) (hr : rw ≤ 6) (hc : cl ≤ 6) (hi : i_one lt p u bb = some r) : ∃ xs u', r_lst lt 4 (p + 1) = some (xs, r.2.2) ∧ i_take (lt p) u (fun k => xs.getD k 0) xs.length n rw cl bb = some u' := by
  cases hl : r_lst lt 4 (p + 1) with
  | none => rw [i_one_n hl] at hi; cases hi
  | some xq =>
    obtain ⟨xs, q⟩ := xq
    rw [i_one_f h hn hr hc hl] at hi
    cases ht : i_take (lt p) u (fun k => xs.getD k 0) xs.length n rw cl bb with
    | none => rw [ht] at hi; cases hi
    | some u' => rw [ht] at hi; cases hi; exact ⟨xs, u', rfl, ht⟩
theorem i_take_w {xs : Nat → Nat} {u' : qV} (ht : i_take 119 u xs m n rw cl bb = some u') : t_wall xs m (bb = true) ∧ u' = vs (vs u 0 3 (nI (xs 0))) 0 4 (nI (xs 1)) := by
  unfold i_take at ht
  rw [if_pos rfl] at ht
  split at ht
  · next hh => cases ht; exact ⟨hh, rfl⟩
  · cases ht
theorem i_take_n {xs : Nat → Nat} {u' : qV} (ht : i_take 110 u xs m n rw cl bb = some u') : t_nail u xs m n rw cl ∧ u' = w_add u n (n_new xs cl) := by
  unfold i_take at ht
  rw [if_neg (by decide), if_pos rfl] at ht
  split at ht
  · next hh => cases ht; exact ⟨hh, rfl⟩
  · cases ht
theorem i_take_d {xs : Nat → Nat} {u' : qV} (ht : i_take 100 u xs m n rw cl bb = some u') : t_damp xs m cl ∧ u' = vs u 3 (xs 0) (nI (xs 1)) := by
  unfold i_take at ht
  rw [if_neg (by decide), if_neg (by decide), if_pos rfl] at ht
  split at ht
  · next hh => cases ht; exact ⟨hh, rfl⟩
  · cases ht
theorem i_take_b {xs : Nat → Nat} {u' : qV} (ht : i_take 98 u xs m n rw cl bb = some u') : t_bell xs m ∧ u' = vs u 0 5 (nI (xs 0)) := by
  unfold i_take at ht
  rw [if_neg (by decide), if_neg (by decide), if_neg (by decide), if_pos rfl] at ht
  split at ht
  · next hh => cases ht; exact ⟨hh, rfl⟩
  · cases ht
theorem i_take_x {xs : Nat → Nat} (h1 : c ≠ 119 ∧ c ≠ 110 ∧ c ≠ 100 ∧ c ≠ 98) : i_take c u xs m n rw cl bb = none := by
  unfold i_take
  rw [if_neg h1.1, if_neg h1.2.1, if_neg h1.2.2.1, if_neg h1.2.2.2]
theorem lst2 {xs : List Nat} (h : r_lst lt 4 p = some (xs, q)) (hl : xs.length = 2) : ∃ x p1 y p2, r_num lt p = some (x, p1) ∧ lt p1 = 44 ∧ r_num lt (p1 + 1) = some (y, p2) ∧ lt p2 = 59 ∧ xs = [x, y] ∧ q = p2 + 1 := by
  obtain ⟨x, p1, ys, a1, a2, a3, a4, a5⟩ := r_lst_s (m := 3) (k := 0) h hl
  obtain ⟨y, p2, b1, b2, b3, b4⟩ := r_lst_1 (m := 2) a5 a4
  exact ⟨x, p1, y, p2, a1, a2, b1, b2, by rw [a3, b3], b4⟩
theorem lst4 {xs : List Nat} (h : r_lst lt 4 p = some (xs, q)) (hl : xs.length = 4) : ∃ x p1 y p2 z p3 w p4, r_num lt p = some (x, p1) ∧ lt p1 = 44 ∧ r_num lt (p1 + 1) = some (y, p2) ∧ lt p2 = 44 ∧ r_num lt (p2 + 1) = some (z, p3) ∧ lt p3 = 44 ∧ r_num lt (p3 + 1) = some (w, p4) ∧ lt p4 = 59 ∧ xs = [x, y, z, w] ∧ q = p4 + 1 := by
  obtain ⟨x, p1, ys, a1, a2, a3, a4, a5⟩ := r_lst_s (m := 3) (k := 2) h hl
  obtain ⟨y, p2, zs, b1, b2, b3, b4, b5⟩ := r_lst_s (m := 2) (k := 1) a5 a4
  obtain ⟨z, p3, ws, c1, c2, c3, c4, c5⟩ := r_lst_s (m := 1) (k := 0) b5 b4
  obtain ⟨w, p4, d1, d2, d3, d4⟩ := r_lst_1 (m := 0) c5 c4
  exact ⟨x, p1, y, p2, z, p3, w, p4, a1, a2, b1, b2, c1, c2, d1, d2, by rw [a3, b3, c3, d3], d4⟩
theorem lst1_f {x p1 : Nat} (h1 : r_num lt p = some (x, p1)) (h2 : lt p1 = 59) : r_lst lt (m + 1) p = some ([x], p1 + 1) := by rw [r_lst_f h1, if_pos h2]
theorem lsts_f {x p1 q : Nat} {ys : List Nat} (h1 : r_num lt p = some (x, p1)) (h2 : lt p1 = 44) (h3 : r_lst lt m (p1 + 1) = some (ys, q)) : r_lst lt (m + 1) p = some (x :: ys, q) := by rw [r_lst_f h1, if_neg (by omega), if_pos h2, h3]
/-- an item: taken by both, or by none -/
def ITP (M : qM) (R : Nat) (lt : Nat → Nat) (L p : Nat) (u v : qV) (g : Nat → Nat) (b : Bool) : Prop :=
  (∃ v' g' u' b' q', i_one lt p u b = some (u', b', q' + 1) ∧ (lt q' = 59 ∧ p < q') ∧ RDI u' v' g' lt L q' b' ∧ eqt v v' ∧ (∀ k, k < 616 ∨ 672 ≤ k → g' k = g k) ∧ ∀ (d : Nat) o, Ev (d + 4) 59 [.ref R, .int (nI (lt p))] (sB M R (vg v g)) o = (o = (none, sB M R (vg v' g'))))
  ∨ (i_one lt p u b = none ∧ ∃ v' g', eqt v v' ∧ (∀ k, k < 616 ∨ 672 ≤ k → g' k = g k) ∧ (RX v' ∨ ∃ rw cl bl dm bg q', RT v' lt L rw cl bl dm bg q' ∧ lt q' ≠ 59) ∧ ∀ (d : Nat) o, Ev (d + 4) 59 [.ref R, .int (nI (lt p))] (sB M R (vg v g)) o = (o = (none, sB M R (vg v' g'))))
theorem ITP_bad {r : Prop} (hN : i_one lt p u bb = none) (hB : ∃ v', eqt v v' ∧ RX v' ∧ ∀ (d : Nat) o, Ev (d + 4) 59 [.ref R, .int (nI (lt p))] (sB M R (vg v g)) o = (o = (none, sB M R (vg v' g)))) : ITP M R lt L p u v g bb := by
  obtain ⟨v', h1, h2, h3⟩ := hB
  exact Or.inr ⟨hN, v', g, h1, fun _ _ => rfl, Or.inl h2, h3⟩
theorem none_of {α : Type} {z : Option α} (h : ∀ r, z = some r → False) : z = none := by
  cases z with
  | none => rfl
  | some r => exact (h r rfl).elim
theorem IT_w (h : isRef M R) (hd : RDI u v g lt L (p + 1) bb) (hp : p ≤ 200) (hc : lt p = 119) : ITP M R lt L p u v g bb := by
  obtain ⟨rw, cl, bl, dm, n, hT, hW, hn, hr, hcl, hbl, hdm, hg, hu, hb0, h55⟩ := hd
  have hinv : ∀ r, i_one lt p u bb = some r → bb = true ∧ ∃ a p1 e p2, r_num3 lt (p + 1) 2 6 = some (a, p1) ∧ r_more lt p1 2 6 = some (e, p2) ∧ lt p2 = 59 := fun r hi => by
    obtain ⟨xs, u', h1, h2⟩ := i_one_inv hW hn hr.2 hcl.2 hi
    rw [hc] at h2
    obtain ⟨⟨hm, hbb, hx, hy⟩, _⟩ := i_take_w h2
    obtain ⟨x, p1, y, p2, a1, a2, a3, a4, a5, a6⟩ := lst2 h1 hm
    rw [a5] at hx hy
    exact ⟨hbb, x, p1, y, p2, r_num3_of a1 (fig44 a2) hx, r_more_of a2 a3 (fig59 a4) hy, a4⟩
  by_cases hbb : bb = true
  · subst hbb
    have hn0 := hb0 rfl
    cases h1 : r_num3 lt (p + 1) 2 6 with
    | none =>
      refine ITP_bad (r := True) (none_of fun r hi => ?_) ?_
      · obtain ⟨_, a, p1, e, p2, e1, e2, e3⟩ := hinv r hi
        rw [h1] at e1; cases e1
      · rw [hc]; exact S_item_w_n h hT (by omega) (Or.inr (Or.inl h1))
    | some ap =>
      obtain ⟨a, p1⟩ := ap
      have h1b := r_num3_b h1
      have hp1 := r_num_lt h1b.1
      cases h2 : r_more lt p1 2 6 with
      | none =>
        refine ITP_bad (r := True) (none_of fun r hi => ?_) ?_
        · obtain ⟨_, a', p1', e, p2, e1, e2, e3⟩ := hinv r hi
          rw [h1] at e1; cases e1
          rw [h2] at e2; cases e2
        · rw [hc]; exact S_item_w_n h hT (by omega) (Or.inr (Or.inr ⟨a, p1, h1, by omega, h2⟩))
      | some ep =>
        obtain ⟨e, p2⟩ := ep
        have h2b := r_more_b h2
        obtain ⟨v', ev, T', hl⟩ := S_item_w_y (g := g) h hT (by omega) h1 h2 (by omega)
        by_cases h3 : lt p2 = 59
        · have hlst := lsts_f (m := 3) h1b.1 h2b.1 (lst1_f (m := 2) h2b.2.1 h3)
          have hio : i_one lt p u true = some (vs (vs u 0 3 (nI a)) 0 4 (nI e), true, p2 + 1) := by
            rw [i_one_f hW hn hr.2 hcl.2 hlst, hc]
            have : i_take 119 u (fun k => [a, e].getD k 0) [a, e].length n rw cl true = some (vs (vs u 0 3 (nI a)) 0 4 (nI e)) := by
              unfold i_take
              rw [if_pos rfl]
              exact if_pos ⟨rfl, rfl, h1b.2.2, h2b.2.2.2⟩
            rw [this]
            rfl
          refine Or.inl ⟨v', g, _, true, p2, hio, ⟨h3, by have := r_num_lt h2b.2.1; omega⟩, ⟨a, e, bl, dm, n, T', ?_, hn, h1b.2.2, h2b.2.2.2, hbl, hdm, hg, hu, hb0, h55⟩, ev, fun _ _ => rfl, by rw [hc]; exact hl⟩
          obtain ⟨⟨w1, w2, w3, w4, w5⟩, w6, w7, w8⟩ := hW
          exact ⟨⟨(vs_ne (by omega)).trans vs_same, vs_same, (vs_ne (by omega)).trans ((vs_ne (by omega)).trans w3), (vs_ne (by omega)).trans ((vs_ne (by omega)).trans w4), (vs_ne (by omega)).trans ((vs_ne (by omega)).trans w5)⟩, w6, fun c hc => (vs_ne (by omega)).trans ((vs_ne (by omega)).trans (w7 c hc)), fun i hi => by omega⟩
        · refine Or.inr ⟨none_of fun r hi => ?_, v', g, ev, fun _ _ => rfl, Or.inr ⟨a, e, bl, dm, false, p2, T', h3⟩, by rw [hc]; exact hl⟩
          obtain ⟨_, a', p1', e', p2', e1, e2, e3⟩ := hinv r hi
          rw [h1] at e1; cases e1
          rw [h2] at e2; cases e2
          exact h3 e3
  · refine ITP_bad (r := True) (none_of fun r hi => hbb (hinv r hi).1) ?_
    rw [hc]
    refine S_item_w_n h hT (by omega) (Or.inl ?_)
    cases bb with
    | true => exact absurd rfl hbb
    | false => rfl
theorem IT_b (h : isRef M R) (hd : RDI u v g lt L (p + 1) bb) (hp : p ≤ 200) (hc : lt p = 98) : ITP M R lt L p u v g bb := by
  obtain ⟨rw, cl, bl, dm, n, hT, hW, hn, hr, hcl, hbl, hdm, hg, hu, hb0, h55⟩ := hd
  have hinv : ∀ r, i_one lt p u bb = some r → ∃ a p1, r_num3 lt (p + 1) 1 30 = some (a, p1) ∧ lt p1 = 59 := fun r hi => by
    obtain ⟨xs, u', h1, h2⟩ := i_one_inv hW hn hr.2 hcl.2 hi
    rw [hc] at h2
    obtain ⟨⟨hm, hx⟩, _⟩ := i_take_b h2
    obtain ⟨x, p1, a1, a2, a3, a4⟩ := r_lst_1 (m := 3) h1 hm
    rw [a3] at hx
    exact ⟨x, p1, r_num3_of a1 (fig59 a2) hx, a2⟩
  cases h1 : r_num3 lt (p + 1) 1 30 with
  | none =>
    refine ITP_bad (r := True) (none_of fun r hi => ?_) ?_
    · obtain ⟨a, p1, e1, e2⟩ := hinv r hi
      rw [h1] at e1; cases e1
    · rw [hc]; exact S_item_b_n h hT (by omega) h1
  | some ap =>
    obtain ⟨a, p1⟩ := ap
    have h1b := r_num3_b h1
    obtain ⟨v', ev, T', hl⟩ := S_item_b_y (g := g) h hT (by omega) h1
    by_cases h3 : lt p1 = 59
    · have hlst := lst1_f (m := 3) h1b.1 h3
      have hio : i_one lt p u bb = some (vs u 0 5 (nI a), bb && decide (lt p = 119), p1 + 1) := by
        rw [i_one_f hW hn hr.2 hcl.2 hlst, hc]
        have : i_take 98 u (fun k => [a].getD k 0) [a].length n rw cl bb = some (vs u 0 5 (nI a)) := by
          unfold i_take
          rw [if_neg (by decide), if_neg (by decide), if_neg (by decide), if_pos rfl]
          exact if_pos ⟨rfl, h1b.2.2⟩
        rw [this]
      have hbf : (bb && decide (lt p = 119)) = false := by rw [hc]; cases bb <;> rfl
      rw [hbf] at hio
      refine Or.inl ⟨v', g, _, false, p1, hio, ⟨h3, by have := r_num_lt h1b.1; omega⟩, ⟨rw, cl, a, dm, n, T', ?_, hn, hr, hcl, by have := h1b.2.2; omega, hdm, hg, hu, fun hh => (by cases hh), h55⟩, ev, fun _ _ => rfl, by rw [hc]; exact hl⟩
      obtain ⟨⟨w1, w2, w3, w4, w5⟩, w6, w7, w8⟩ := hW
      refine ⟨⟨(vs_ne (by omega)).trans w1, (vs_ne (by omega)).trans w2, vs_same, (vs_ne (by omega)).trans w4, (vs_ne (by omega)).trans w5⟩, w6, fun c hc => (vs_ne (by omega)).trans (w7 c hc), fun i hi => ?_⟩
      simp (disch := omega) only [vs_ne]
      exact w8 i hi
    · refine Or.inr ⟨none_of fun r hi => ?_, v', g, ev, fun _ _ => rfl, Or.inr ⟨rw, cl, a, dm, true, p1, T', h3⟩, by rw [hc]; exact hl⟩
      obtain ⟨a', p1', e1, e2⟩ := hinv r hi
      rw [h1] at e1; cases e1
      exact h3 e2
theorem IT_d (h : isRef M R) (hd : RDI u v g lt L (p + 1) bb) (hp : p ≤ 200) (hc : lt p = 100) : ITP M R lt L p u v g bb := by
  obtain ⟨rw, cl, bl, dm, n, hT, hW, hn, hr, hcl, hbl, hdm, hg, hu, hb0, h55⟩ := hd
  have hinv : ∀ r, i_one lt p u bb = some r → ∃ a p1 e p2, r_num3 lt (p + 1) 0 (cl - 1) = some (a, p1) ∧ r_more lt p1 0 9 = some (e, p2) ∧ lt p2 = 59 := fun r hi => by
    obtain ⟨xs, u', h1, h2⟩ := i_one_inv hW hn hr.2 hcl.2 hi
    rw [hc] at h2
    obtain ⟨⟨hm, hx, hy⟩, _⟩ := i_take_d h2
    obtain ⟨x, p1, y, p2, a1, a2, a3, a4, a5, a6⟩ := lst2 h1 hm
    rw [a5] at hx hy
    have hx' : x < cl := hx
    have hy' : y ≤ 9 := hy
    exact ⟨x, p1, y, p2, r_num3_of a1 (fig44 a2) (by omega), r_more_of a2 a3 (fig59 a4) (by omega), a4⟩
  cases h1 : r_num3 lt (p + 1) 0 (cl - 1) with
  | none =>
    refine ITP_bad (r := True) (none_of fun r hi => ?_) ?_
    · obtain ⟨a, p1, e, p2, e1, e2, e3⟩ := hinv r hi
      rw [h1] at e1; cases e1
    · rw [hc]; exact S_item_d_n h hT (by omega) (by omega) (Or.inl h1)
  | some ap =>
    obtain ⟨a, p1⟩ := ap
    have h1b := r_num3_b h1
    have hp1 := r_num_lt h1b.1
    cases h2 : r_more lt p1 0 9 with
    | none =>
      refine ITP_bad (r := True) (none_of fun r hi => ?_) ?_
      · obtain ⟨a', p1', e, p2, e1, e2, e3⟩ := hinv r hi
        rw [h1] at e1; cases e1
        rw [h2] at e2; cases e2
      · rw [hc]; exact S_item_d_n h hT (by omega) (by omega) (Or.inr ⟨a, p1, h1, by omega, h2⟩)
    | some ep =>
      obtain ⟨e, p2⟩ := ep
      have h2b := r_more_b h2
      obtain ⟨v', ev, T', hl⟩ := S_item_d_y (g := g) h hT (by omega) (by omega) h1 h2 (by omega)
      by_cases h3 : lt p2 = 59
      · have hlst := lsts_f (m := 3) h1b.1 h2b.1 (lst1_f (m := 2) h2b.2.1 h3)
        have hio : i_one lt p u bb = some (vs u 3 a (nI e), bb && decide (lt p = 119), p2 + 1) := by
          rw [i_one_f hW hn hr.2 hcl.2 hlst, hc]
          have : i_take 100 u (fun k => [a, e].getD k 0) [a, e].length n rw cl bb = some (vs u 3 a (nI e)) := by
            unfold i_take
            rw [if_neg (by decide), if_neg (by decide), if_pos rfl]
            exact if_pos ⟨rfl, show a < cl by omega, h2b.2.2.2.2⟩
          rw [this]
        have hbf : (bb && decide (lt p = 119)) = false := by rw [hc]; cases bb <;> rfl
        rw [hbf] at hio
        refine Or.inl ⟨v', g, _, false, p2, hio, ⟨h3, by have := r_num_lt h2b.2.1; omega⟩, ⟨rw, cl, bl, gs dm a e, n, T', ?_, hn, hr, hcl, hbl, fun c hc => ?_, hg, hu, fun hh => (by cases hh), h55⟩, ev, fun _ _ => rfl, by rw [hc]; exact hl⟩
        · obtain ⟨⟨w1, w2, w3, w4, w5⟩, w6, w7, w8⟩ := hW
          refine ⟨⟨(vs_ne (by omega)).trans w1, (vs_ne (by omega)).trans w2, (vs_ne (by omega)).trans w3, (vs_ne (by omega)).trans w4, (vs_ne (by omega)).trans w5⟩, w6, fun c hc => ?_, fun i hi => ?_⟩
          · unfold vs gs
            by_cases e : c = a
            · rw [if_pos ⟨rfl, e⟩, if_pos e]
            · rw [if_neg (fun hh => e hh.2), if_neg e]; exact w7 c hc
          · simp (disch := omega) only [vs_ne]
            exact w8 i hi
        · unfold gs
          by_cases e : c = a
          · rw [if_pos e]; exact h2b.2.2.2.2
          · rw [if_neg e]; exact hdm c hc
      · refine Or.inr ⟨none_of fun r hi => ?_, v', g, ev, fun _ _ => rfl, Or.inr ⟨rw, cl, bl, gs dm a e, true, p2, T', h3⟩, by rw [hc]; exact hl⟩
        obtain ⟨a', p1', e', p2', e1, e2, e3⟩ := hinv r hi
        rw [h1] at e1; cases e1
        rw [h2] at e2; cases e2
        exact h3 e3
theorem IT_x (h : isRef M R) (hd : RDI u v g lt L (p + 1) bb) (hc : lt p ≠ 119 ∧ lt p ≠ 110 ∧ lt p ≠ 100 ∧ lt p ≠ 98) : ITP M R lt L p u v g bb := by
  obtain ⟨rw, cl, bl, dm, n, hT, hW, hn, hr, hcl, hbl, hdm, hg, hu, hb0, h55⟩ := hd
  refine ITP_bad (r := True) (none_of fun r hi => ?_) (S_item_x h hT (hT.1.2.2.2.2 p) hc)
  obtain ⟨xs, u', h1, h2⟩ := i_one_inv hW hn hr.2 hcl.2 hi
  rw [i_take_x hc] at h2
  cases h2
end QRT
