section QCM
variable {d B a b b' i n N W rw cl bl L s kp D D' : Nat} {M M' M'' : qM} {u v : qV} {o : qOut} {x y : Int32} {p g g' dm lt w tt dp : Nat → Nat}
theorem isWall_ne (h : isWall M a) (hS : qS M' = qS M) (hR : ∀ x, x = a ∨ x = a + 1 → ∀ k, qR M' x k = qR M x k) : isWall M' a := by
  obtain ⟨h1, h2, h3, h4, h5, h6, h7, h8, h9⟩ := h
  exact ⟨by rw [hS]; exact h1, by rw [hS]; exact h2, by rw [hS]; exact h3, by rw [hS]; exact h4, fun i hi => by rw [hS]; exact h5 i hi, (hR _ (Or.inl rfl) _).trans h6, (hR _ (Or.inl rfl) _).trans h7, (hR _ (Or.inl rfl) _).trans h8, fun i hi => (hR _ (Or.inr rfl) _).trans (h9 i hi)⟩
theorem isWs_ne (h : isWs M W N p) (hS : qS M' = qS M) (hR : ∀ x k, x ≠ B + 36 → qR M' x k = qR M x k) (hW : W ≠ B + 36 ∧ W + 1 ≠ B + 36) (hp : ∀ k, k < N → p k ≠ B + 36 ∧ p k + 1 ≠ B + 36) : isWs M' W N p := by
  obtain ⟨h1, h2, h3, h4, h5, h6⟩ := h
  exact ⟨by rw [hS]; exact h1, by rw [hS]; exact h2, (hR _ _ hW.1).trans h3, fun k hk => (hR _ _ hW.2).trans (h4 k hk), fun k hk => isWall_ne (h5 k hk) hS (fun x hx k' => hR x k' (by have := hp k hk; omega)), h6⟩
/-- the turned places -/
def rtp (p : Nat → Nat) : Nat → Nat := fun k => if k + 1 < 8 then p (k + 1) else p 0
theorem CS_rot (h : CS M B p) (hS : qS M' = qS M) (hR : ∀ x k, x ≠ B + 36 → qR M' x k = qR M x k) (hr : ∀ k, k < 8 → qR M' (B + 36) k = some (rtp p k)) : CS M' B (rtp p) := by
  obtain ⟨⟨n0, n1, n2, n3, n4, n5, n6, n7, n8, n9⟩, ⟨t1, t2, t3⟩, ⟨i1, i2, i3⟩, h4, h5, h6, h7, h8, ⟨m1, m2, m3, m4, m5, m6, m7⟩, ⟨g1, g2, g3, g4, g5, g6, g7⟩, h11, h12⟩ := h
  have hpk : ∀ k, k < 8 → ∃ j, j < 8 ∧ rtp p k = B + 37 + 13 * j := fun k hk => by
    unfold rtp
    split
    · exact h11 (k + 1) (by omega)
    · exact h11 0 (by omega)
  obtain ⟨w1, w2, w3, w4, w5, w6⟩ := h6
  refine ⟨⟨by rw [hS]; exact n0, (hR _ _ (by omega)).trans n1, (hR _ _ (by omega)).trans n2, (hR _ _ (by omega)).trans n3, (hR _ _ (by omega)).trans n4, (hR _ _ (by omega)).trans n5, (hR _ _ (by omega)).trans n6, (hR _ _ (by omega)).trans n7, (hR _ _ (by omega)).trans n8, (hR _ _ (by omega)).trans n9⟩, ⟨by rw [hS]; exact t1, by rw [hS]; exact t2, (hR _ _ (by omega)).trans t3⟩, ⟨by rw [hS]; exact i1, by rw [hS]; exact i2, (hR _ _ (by omega)).trans i3⟩, isWall_ne h4 hS (fun x hx k => hR x k (by omega)), isWall_ne h5 hS (fun x hx k => hR x k (by omega)), ⟨by rw [hS]; exact w1, by rw [hS]; exact w2, (hR _ _ (by omega)).trans w3, hr, fun k hk => ?_, w6⟩, isWs_ne h7 hS hR (by omega) (fun k hk => by omega), isWs_ne h8 hS hR (by omega) (fun k hk => by omega), ⟨by rw [hS]; exact m1, by rw [hS]; exact m2, by rw [hS]; exact m3, by rw [hS]; exact m4, (hR _ _ (by omega)).trans m5, (hR _ _ (by omega)).trans m6, (hR _ _ (by omega)).trans m7⟩, ⟨by rw [hS]; exact g1, by rw [hS]; exact g2, by rw [hS]; exact g3, fun r hr => by rw [hS]; exact g4 r hr, (hR _ _ (by omega)).trans g5, (hR _ _ (by omega)).trans g6, fun r hr => (hR _ _ (by omega)).trans (g7 r hr)⟩, hpk, fun k l hk hl e => ?_⟩
  · obtain ⟨j, hj, e⟩ := hpk k hk
    have hw : isWall M (rtp p k) := by
      unfold rtp
      split
      · exact w5 (k + 1) (by omega)
      · exact w5 0 (by omega)
    exact isWall_ne hw hS (fun x hx k' => hR x k' (by omega))
  · unfold rtp at e
    by_cases c1 : k + 1 < 8
    · by_cases c2 : l + 1 < 8
      · rw [if_pos c1, if_pos c2] at e
        have := h12 _ _ c1 c2 e
        omega
      · rw [if_pos c1, if_neg c2] at e
        have := h12 _ _ c1 (by omega) e
        omega
    · by_cases c2 : l + 1 < 8
      · rw [if_neg c1, if_pos c2] at e
        have := h12 _ _ (by omega) c2 e
        omega
      · omega
theorem C_put (h : CS M B p) (hd : CD M B p g rw cl bl dm a kp lt L s w tt dp D) : ∃ M' p', CS M' B p' ∧ CD M' B p' (knG g a) rw cl bl dm (knA a) kp lt L s w tt dp D ∧ smo B M M' ∧ (∀ x k, B + 7 ≤ x → x < B + 20 → qI M' x k = qI M x k) ∧ ∀ (d : Nat) o, Ev (d + 3) 182 [.ref (B + 35), .ref (B + 7)] M o = (o = (none, M')) := by
  obtain ⟨hN, hT, hI, hW, hA, hP, hK, hC, hM, hG, hpk, hpi⟩ := id h
  obtain ⟨⟨n, b1, b2, b3, b4, b5⟩, ⟨p1, p2, p3⟩, ⟨k1, k2, k3⟩, ⟨t1, t2, t3, t4, t5⟩, ⟨m1, m2, m3⟩, gp, hb⟩ := id hd
  have hn : qI M (B + 7) 7 = nI n := b1.1.2.2.2.2
  have hdis : ∀ k l, k < 8 → l < 8 → k ≠ l → p k + 13 ≤ p l ∨ p l + 13 ≤ p k := fun k l hk hl hne => by
    obtain ⟨j, hj, ej⟩ := hpk k hk
    obtain ⟨j', hj', ej'⟩ := hpk l hl
    have : j ≠ j' := fun e => hne (hpi k l hk hl (by rw [ej, ej', e]))
    omega
  by_cases c : a = 8
  · subst c
    obtain ⟨j0, hj0, ej0⟩ := hpk 0 (by omega)
    have hput := fun {d : Nat} {o : qOut} => S_put_f (d := d) (o := o) hP p1 (by omega) hW (by omega) (by omega) (by omega) (by omega) hn b2
    have hqI : ∀ x k, x ≠ B + 35 → (x < p 0 ∨ p 0 + 13 ≤ x) → qI (pI (sB (drp M (B + 35) 8) (p 0) (w_copy (blk (drp M (B + 35) 8) (p 0)) (blk (drp M (B + 35) 8) (B + 7)) n)) (B + 35) 1 (nI 8)) x k = qI M x k := fun x k h1 h2 => by
      rw [qI_pI, if_neg (fun hh => h1 hh.1), qI_sBx h2]
      exact if_neg (fun hh => h1 hh.1)
    have hqD : ∀ x k, x ≠ B + 35 → qI (drp M (B + 35) 8) x k = qI M x k := fun x k h1 => if_neg (fun hh => h1 hh.1)
    have hp' : ∀ k, k < 7 → rtp p k = p (k + 1) := fun k hk => if_pos (by omega)
    have hp7 : rtp p 7 = p 0 := if_neg (by omega)
    refine ⟨_, rtp p, CS_rot h (M' := pI (sB (drp M (B + 35) 8) (p 0) (w_copy (blk (drp M (B + 35) 8) (p 0)) (blk (drp M (B + 35) 8) (B + 7)) n)) (B + 35) 1 (nI 8)) rfl (fun x k hx => qR_rBx hx) (fun k hk => ?_), ⟨?_, ⟨(if_pos ⟨rfl, rfl⟩).trans (show nI 8 = nI (knA 8) from rfl), (by decide : knA 8 ≤ 8), fun k hk => ?_⟩, ⟨(hqI _ _ (by omega) (by omega)).trans k1, k2, fun k hk => ?_⟩, ⟨(hqI _ _ (by omega) (by omega)).trans t1, t2, fun k hk => (hqI _ _ (by omega) (by omega)).trans (t3 k hk), t4, t5⟩, ⟨(hqI _ _ (by omega) (by omega)).trans m1, m2, fun i hi => ?_⟩, fun t ht => (hqI _ _ (by omega) (by omega)).trans (gp t ht), hb⟩, ⟨rfl, rfl, rfl, fun x k hx => hqI x k (by omega) (by omega), fun x k hx => qR_rBx (by omega)⟩, fun x k h1 h2 => hqI x k (by omega) (by omega), fun d o => hput⟩
    · show qR (rB M (B + 36) (rot (qR M (B + 36)) 8)) (B + 36) k = _
      rw [qR_rB]
      unfold rot rtp
      obtain ⟨w1, w2, w3, w4, w5, w6⟩ := hP
      by_cases c1 : k + 1 < 8
      · rw [if_pos c1, if_pos c1]; exact w4 _ c1
      · rw [if_neg c1, if_pos (by omega), if_neg c1]; exact w4 0 (by omega)
    · exact BK_mv (BK_cg ⟨n, b1, b2, b3, b4, b5⟩ (fun j k hj => hqI _ _ (by omega) (by omega))) (kn_0 (by omega))
    · have hk8 : k < 8 := hk
      by_cases c1 : k < 7
      · rw [hp' k c1]
        have hdk := hdis (k + 1) 0 (by omega) (by omega) (by omega)
        obtain ⟨j1, hj1, ej1⟩ := hpk (k + 1) (by omega)
        exact BK_mv (BK_cg (p3 (k + 1) (by omega)) (fun j q hj => hqI _ _ (by omega) (by omega))) (kn_old8 c1)
      · rw [show k = 7 by omega, hp7]
        refine BK_mv (b := 0) (BK_cg (u := w_copy (blk (drp M (B + 35) 8) (p 0)) (blk (drp M (B + 35) 8) (B + 7)) n) ⟨n, RW_copy (RW_cg b1 b2 (fun j q hj => hqD _ _ (by omega))), b2, b3, b4, b5⟩ (fun j q hj => ?_)) kn_new8
        show qI (pI (sB (drp M (B + 35) 8) (p 0) _) (B + 35) 1 (nI 8)) (p 0 + j) q = _
        rw [qI_pI, if_neg (by omega), qI_sBj hj]
    · exact BK_mv (BK_cg (k3 k hk) (fun j q hj => hqI _ _ (by omega) (by omega))) (kn_kept (by omega) (by omega))
    · rw [hqI _ _ (by omega) (by omega), hqI _ _ (by omega) (by omega), hqI _ _ (by omega) (by omega)]
      exact m3 i hi
  · have ha8 : a < 8 := by omega
    have eA : knA a = a + 1 := if_neg c
    obtain ⟨j0, hj0, ej0⟩ := hpk a ha8
    have hput := fun {d : Nat} {o : qOut} => S_put_n (d := d) (o := o) hP p1 ha8 hW (by omega) (by omega) hn b2
    have hqI : ∀ x k, x ≠ B + 35 → (x < p a ∨ p a + 13 ≤ x) → qI (pI (sB M (p a) (w_copy (blk M (p a)) (blk M (B + 7)) n)) (B + 35) 1 (nI (a + 1))) x k = qI M x k := fun x k h1 h2 => by
      rw [qI_pI, if_neg (fun hh => h1 hh.1), qI_sBx h2]
    refine ⟨_, p, CS_of h (M' := pI (sB M (p a) (w_copy (blk M (p a)) (blk M (B + 7)) n)) (B + 35) 1 (nI (a + 1))) rfl rfl, ⟨?_, ⟨(if_pos ⟨rfl, rfl⟩).trans (by rw [eA]), by omega, fun k hk => ?_⟩, ⟨(hqI _ _ (by omega) (by omega)).trans k1, k2, fun k hk => ?_⟩, ⟨(hqI _ _ (by omega) (by omega)).trans t1, t2, fun k hk => (hqI _ _ (by omega) (by omega)).trans (t3 k hk), t4, t5⟩, ⟨(hqI _ _ (by omega) (by omega)).trans m1, m2, fun i hi => ?_⟩, fun t ht => (hqI _ _ (by omega) (by omega)).trans (gp t ht), hb⟩, ⟨rfl, rfl, rfl, fun x k hx => hqI x k (by omega) (by omega), fun x k hx => rfl⟩, fun x k h1 h2 => hqI x k (by omega) (by omega), fun d o => hput⟩
    · exact BK_mv (BK_cg ⟨n, b1, b2, b3, b4, b5⟩ (fun j k hj => hqI _ _ (by omega) (by omega))) (kn_0 (by omega))
    · by_cases c1 : k < a
      · have hdk := hdis k a (by omega) (by omega) (by omega)
        obtain ⟨j1, hj1, ej1⟩ := hpk k (by omega)
        exact BK_mv (BK_cg (p3 k c1) (fun j q hj => hqI _ _ (by omega) (by omega))) (kn_old ha8 c1)
      · rw [show k = a by omega]
        refine BK_mv (b := 0) (BK_cg (u := w_copy (blk M (p a)) (blk M (B + 7)) n) ⟨n, RW_copy b1, b2, b3, b4, b5⟩ (fun j q hj => ?_)) (kn_new ha8)
        show qI (pI (sB M (p a) _) (B + 35) 1 (nI (a + 1))) (p a + j) q = _
        rw [qI_pI, if_neg (by omega), qI_sBj hj]
    · exact BK_mv (BK_cg (k3 k hk) (fun j q hj => hqI _ _ (by omega) (by omega))) (kn_kept (by omega) (by omega))
    · rw [hqI _ _ (by omega) (by omega), hqI _ _ (by omega) (by omega), hqI _ _ (by omega) (by omega)]
      exact m3 i hi
/-- the now wall's cells changed -/
theorem C_now {g' : Nat → Nat} (h : CS M B p) (hd : CD M B p g rw cl bl dm a kp lt L s w tt dp D) (hb : BK u g' 0 rw cl bl dm D') (hD : D ≤ D') (e : ∀ k, 56 ≤ k → g' k = g k) : CD (sB M (B + 7) u) B p g' rw cl bl dm a kp lt L s w tt dp D' := by
  obtain ⟨hN, hT, hI, hW, hA, hP, hK, hC, hM, hG, hpk, hpi⟩ := id h
  obtain ⟨h1, ⟨h2, h3, h4⟩, ⟨h5, h6, h7⟩, ⟨h8, h9, h10, h11, h12⟩, ⟨h13, h14, h15⟩, h16, h17⟩ := CD_up hd hD
  refine ⟨BK_cg hb (fun j k hj => qI_sBj hj), ⟨(qI_sBx (by omega)).trans h2, h3, fun k hk => BK_mv (BK_cg (h4 k hk) (fun j k' hj => qI_sBx ?_)) (fun j hj => e _ (by omega))⟩, ⟨(qI_sBx (by omega)).trans h5, h6, fun k hk => BK_mv (BK_cg (h7 k hk) (fun j k' hj => qI_sBx (by omega))) (fun j hj => e _ (by omega))⟩, ⟨(qI_sBx (by omega)).trans h8, h9, fun k hk => (qI_sBx (by omega)).trans (h10 k hk), h11, h12⟩, ⟨(qI_sBx (by omega)).trans h13, h14, fun i hi => ?_⟩, fun t ht => (qI_sBx (by omega)).trans (h16 t ht), h17⟩
  · obtain ⟨q, hq, hpq⟩ := hpk k (by omega)
    omega
  · rw [qI_sBx (by omega), qI_sBx (by omega), qI_sBx (by omega)]
    exact h15 i hi
/-- cells changed that CD doesn't speak of -/
theorem C_scr (h : CS M B p) (hd : CD M B p g rw cl bl dm a kp lt L s w tt dp D) (e : ∀ x k, cor B x → qI M' x k = qI M x k) : CD M' B p g rw cl bl dm a kp lt L s w tt dp D := CD_of hd h.2.2.2.2.2.2.2.2.2.2.1 e
end QCM
