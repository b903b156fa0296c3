/-! ===== THE CLASS AND THE REFERENCE, SIDE BY SIDE ===== -/
/-- what the reference holds beside its slots -/
def VF (v : qV) (rw cl bl : Nat) (dm : Nat → Nat) (a kp : Nat) (lt : Nat → Nat) (L s : Nat) (w tt dp : Nat → Nat) : Prop := v 0 0 = nI rw ∧ v 0 1 = nI cl ∧ v 0 2 = nI bl ∧ (∀ c, c < 6 → v 1 c = nI (dm c)) ∧ v 0 10 = nI a ∧ v 0 11 = nI kp ∧ HT v lt L ∧ rSaw v s w tt dp
def SIM (M : qM) (B D : Nat) : Prop := ∃ (p : Nat → Nat) (v : qV) (g : Nat → Nat) (rw cl bl : Nat) (dm : Nat → Nat) (a kp : Nat) (lt : Nat → Nat) (L s : Nat) (w tt dp : Nat → Nat), CS M B p ∧ CD M B p g rw cl bl dm a kp lt L s w tt dp D ∧ isRef M (B + 289) ∧ M = sB M (B + 289) (vg v g) ∧ VF v rw cl bl dm a kp lt L s w tt dp
/-- one call of each: the same answer, side by side again -/
def GO (EN ER : Nat → List Value → qM → qOut → Prop) (as : List Value) (M : qM) (B D : Nat) : Prop := ∃ (z : Int32) (M1 M2 : qM), (∀ d o, 8 ≤ d → EN d (.ref B :: as) M o = (o = (some (.int z), M1))) ∧ (∀ d o, ER d (.ref (B + 289) :: as) M1 o = (o = (some (.int z), M2))) ∧ (qS M1 = qS M ∧ ∀ x k, x < B → qI M1 x k = qI M x k) ∧ SIM M2 B (D + 30) ∧ qS M2 = qS M ∧ ∀ x k, x < B → qI M2 x k = qI M x k
section QSI
variable {d B a i n c k rw cl bl L s kp D D' N : Nat} {M M' M1 : qM} {u v v' : qV} {o : qOut} {x y z : Int32} {p p' g g' dm lt w tt dp : Nat → Nat} {EN ER : Nat → List Value → qM → qOut → Prop} {as : List Value}
theorem VF_of (h : VF v rw cl bl dm a kp lt L s w tt dp) (e : ∀ j k, (j = 0 ∧ (k = 0 ∨ k = 1 ∨ k = 2 ∨ k = 10 ∨ k = 11 ∨ k = 12 ∨ k = 17)) ∨ j = 1 ∨ j = 4 ∨ j = 5 ∨ j = 6 ∨ j = 7 → v' j k = v j k) : VF v' rw cl bl dm a kp lt L s w tt dp := by
  obtain ⟨h1, h2, h3, h4, h5, h6, ⟨h7, h8, h9, h10⟩, h11, h12, h13⟩ := h
  refine ⟨(e _ _ (by omega)).trans h1, (e _ _ (by omega)).trans h2, (e _ _ (by omega)).trans h3, fun c hc => (e _ _ (by omega)).trans (h4 c hc), (e _ _ (by omega)).trans h5, (e _ _ (by omega)).trans h6, ⟨(e _ _ (by omega)).trans h7, h8, fun k hk => (e _ _ (by omega)).trans (h9 k hk), h10⟩, (e _ _ (by omega)).trans h11, h12, fun q hq => ?_⟩
  obtain ⟨q1, q2, q3, q4⟩ := h13 q hq
  exact ⟨(e _ _ (by omega)).trans q1, (e _ _ (by omega)).trans q2, (e _ _ (by omega)).trans q3, q4⟩
theorem VF_y (h : VF v rw cl bl dm a kp lt L s w tt dp) (e : eqy v v') : VF v' rw cl bl dm a kp lt L s w tt dp := VF_of h (fun j k hj => e j k (by omega) (by omega) (by omega))
theorem VF_s (h : VF v rw cl bl dm a kp lt L s w tt dp) (e : eqs v v') : VF v' rw cl bl dm a kp lt L s w tt dp := VF_of h (fun j k hj => e j k (by omega) (by omega))
theorem VF_z (h : VF v rw cl bl dm a kp lt L s w tt dp) (e : eqz v v') : VF v' rw cl bl dm a kp lt L s w tt dp := VF_of h (fun j k hj => e j k (by omega) (by omega) (by omega))
theorem VF_a (h : VF v rw cl bl dm a kp lt L s w tt dp) : VF (vs v 0 10 (nI k)) rw cl bl dm k kp lt L s w tt dp := by
  obtain ⟨h1, h2, h3, h4, h5, h6, ⟨h7, h8, h9, h10⟩, h11, h12, h13⟩ := h
  refine ⟨(vs_ne (by omega)).trans h1, (vs_ne (by omega)).trans h2, (vs_ne (by omega)).trans h3, fun c hc => (vs_ne (by omega)).trans (h4 c hc), vs_same, (vs_ne (by omega)).trans h6, ⟨(vs_ne (by omega)).trans h7, h8, fun k hk => (vs_ne (by omega)).trans (h9 k hk), h10⟩, (vs_ne (by omega)).trans h11, h12, fun q hq => ?_⟩
  obtain ⟨q1, q2, q3, q4⟩ := h13 q hq
  exact ⟨(vs_ne (by omega)).trans q1, (vs_ne (by omega)).trans q2, (vs_ne (by omega)).trans q3, q4⟩
theorem VF_k (h : VF v rw cl bl dm a kp lt L s w tt dp) : VF (vs v 0 11 (nI k)) rw cl bl dm a k lt L s w tt dp := by
  obtain ⟨h1, h2, h3, h4, h5, h6, ⟨h7, h8, h9, h10⟩, h11, h12, h13⟩ := h
  refine ⟨(vs_ne (by omega)).trans h1, (vs_ne (by omega)).trans h2, (vs_ne (by omega)).trans h3, fun c hc => (vs_ne (by omega)).trans (h4 c hc), (vs_ne (by omega)).trans h5, vs_same, ⟨(vs_ne (by omega)).trans h7, h8, fun k hk => (vs_ne (by omega)).trans (h9 k hk), h10⟩, (vs_ne (by omega)).trans h11, h12, fun q hq => ?_⟩
  obtain ⟨q1, q2, q3, q4⟩ := h13 q hq
  exact ⟨(vs_ne (by omega)).trans q1, (vs_ne (by omega)).trans q2, (vs_ne (by omega)).trans q3, q4⟩
theorem CD_gb (h : CD M B p g rw cl bl dm a kp lt L s w tt dp D) : g 0 ≤ 9 ∧ GB g 0 ∧ UN g 0 (g 0) ∧ CP g 0 (g 0) ∧ g 55 ≤ D := by
  obtain ⟨n, h1, h2, h3, h4, h5, h6⟩ := h.1
  have e : g 0 = n := h1.2.1
  subst e
  exact ⟨h2, h3, h4, h6, h5⟩
theorem SIM_r (h : CD M B p g rw cl bl dm a kp lt L s w tt dp D) (hv : VF v rw cl bl dm a kp lt L s w tt dp) : rOK v g dm rw cl bl (g 0) D := by
  obtain ⟨g1, g2, g3, g4, g5⟩ := CD_gb h
  have hb := h.2.2.2.2.2.2
  exact ⟨rfl, g1, hv.1, hb.1, hv.2.1, hb.2.1, hv.2.2.1, hb.2.2.1, fun c hc => ⟨hv.2.2.2.1 c hc, hb.2.2.2 c hc⟩, g2, g5⟩
theorem SIM_up (h : SIM M B D) (hD : D ≤ D') : SIM M B D' := by
  obtain ⟨p, v, g, rw, cl, bl, dm, a, kp, lt, L, s, w, tt, dp, h1, h2, h3, h4, h5⟩ := h
  exact ⟨p, v, g, rw, cl, bl, dm, a, kp, lt, L, s, w, tt, dp, h1, CD_up h2 hD, h3, h4, h5⟩
theorem GO_id (hs : SIM M B D) (z : Int32) (eM : M = sB M (B + 289) (vg v g)) (hN : ∀ d o, EN d (.ref B :: as) M o = (o = (some (.int z), M))) (hR : ∀ d o, ER d (.ref (B + 289) :: as) (sB M (B + 289) (vg v g)) o = (o = (some (.int z), sB M (B + 289) (vg v g)))) : GO EN ER as M B D := by
  rw [← eM] at hR
  exact ⟨z, M, M, fun d o _ => hN d o, hR, ⟨rfl, fun _ _ _ => rfl⟩, SIM_up hs (by omega), rfl, fun _ _ _ => rfl⟩
theorem isRef_of {R : Nat} (h : isRef M R) (hS : qS M' = qS M) (hR : ∀ k, qR M' R k = qR M R k) : isRef M' R := by
  unfold isRef at *
  rw [hS, hR, hR, hR, hR, hR, hR, hR, hR, hR, hR, hR, hR]; exact h
theorem GO_mk {rw' cl' bl' a' kp' L' s' : Nat} {dm' lt' w' tt' dp' : Nat → Nat} (hr : isRef M (B + 289)) (z : Int32) (eM : M = sB M (B + 289) (vg v g)) (hc : CS M1 B p') (hd : CD M1 B p' g' rw' cl' bl' dm' a' kp' lt' L' s' w' tt' dp' (D + 30)) (hsm : smo B M M1) (hN : ∀ d o, 8 ≤ d → EN d (.ref B :: as) M o = (o = (some (.int z), M1))) (hR : isRef M1 (B + 289) → ∃ v2 g2, VF v2 rw' cl' bl' dm' a' kp' lt' L' s' w' tt' dp' ∧ (∀ k, k < 616 → g2 k = g' k) ∧ ∀ d o, ER d (.ref (B + 289) :: as) (sB M1 (B + 289) (vg v g)) o = (o = (some (.int z), sB M1 (B + 289) (vg v2 g2)))) : GO EN ER as M B D := by
  have hr1 : isRef M1 (B + 289) := isRef_of hr hsm.1 (fun k => hsm.2.2.2.2 _ k (by omega))
  have e1 : M1 = sB M1 (B + 289) (vg v g) := by
    have : blk M1 (B + 289) = blk M (B + 289) := by
      funext j k
      exact hsm.2.2.2.1 _ k (by omega)
    have e2 : ∀ j k, j < 13 → blk M (B + 289) j k = vg v g j k := fun j k hj => by
      show qI M (B + 289 + j) k = _
      rw [eM]
      exact qI_sBj hj
    have e3 : sB M1 (B + 289) (blk M1 (B + 289)) = sB M1 (B + 289) (vg v g) := by
      rw [this]
      refine Prod.ext rfl (Prod.ext ?_ rfl)
      funext x k
      show (if B + 289 ≤ x ∧ x < B + 289 + 13 then blk M (B + 289) (x - (B + 289)) k else _) = if B + 289 ≤ x ∧ x < B + 289 + 13 then vg v g (x - (B + 289)) k else _
      by_cases c : B + 289 ≤ x ∧ x < B + 289 + 13
      · rw [if_pos c, if_pos c, e2 _ _ (by omega)]
      · rw [if_neg c, if_neg c]
    rw [← e3, sB_blk]
  obtain ⟨v2, g2, hv2, hg2, hev⟩ := hR hr1
  rw [← e1] at hev
  have hS : CS (sB M1 (B + 289) (vg v2 g2)) B p' := CS_of hc rfl rfl
  refine ⟨z, M1, sB M1 (B + 289) (vg v2 g2), hN, hev, ⟨hsm.1, fun x k hx => hsm.2.2.2.1 x k (by omega)⟩, ⟨p', v2, g2, rw', cl', bl', dm', a', kp', lt', L', s', w', tt', dp', hS, CD_g (C_scr hc hd (fun x k hx => qI_sBx (by unfold cor at hx; omega))) hg2, hr1, by rw [sB_sB], hv2⟩, hsm.1, fun x k hx => (qI_sBx (by omega)).trans (hsm.2.2.2.1 x k (by omega))⟩
/-- the class has looked only, the reference too -/
theorem GO_look (hr : isRef M (B + 289)) (z : Int32) (eM : M = sB M (B + 289) (vg v g)) (hd0 : CD M B p g rw cl bl dm a kp lt L s w tt dp D) (hv : VF v rw cl bl dm a kp lt L s w tt dp) (hN : ∃ M1, CS M1 B p ∧ CD M1 B p g rw cl bl dm a kp lt L s w tt dp D ∧ smo B M M1 ∧ ∀ d o, 8 ≤ d → EN d (.ref B :: as) M o = (o = (some (.int z), M1))) (hR : ∀ M1, isRef M1 (B + 289) → ∃ v2 g2, VF v2 rw cl bl dm a kp lt L s w tt dp ∧ (∀ k, k < 616 ∨ 672 ≤ k → g2 k = g k) ∧ ∀ d o, ER d (.ref (B + 289) :: as) (sB M1 (B + 289) (vg v g)) o = (o = (some (.int z), sB M1 (B + 289) (vg v2 g2)))) : GO EN ER as M B D := by
  obtain ⟨M1, h1, h2, h3, h4⟩ := hN
  refine GO_mk hr z eM h1 (CD_up h2 (by omega)) h3 h4 (fun hr1 => ?_)
  obtain ⟨v2, g2, q1, q2, q3⟩ := hR M1 hr1
  exact ⟨v2, g2, q1, fun k hk => q2 k (Or.inl hk), q3⟩
end QSI
