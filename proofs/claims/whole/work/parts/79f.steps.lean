/-! ===== EACH CALL, SIDE BY SIDE ===== -/
section QST
variable {B D : Nat} {M : qM} {x y z t : Int32}
theorem ix_cases (x : Int32) (n : Nat) (hn : n < 2 ^ 31) : (∃ i, i < n ∧ x = nI i) ∨ ¬ (¬ x < nI 0 ∧ x < nI n) := by
  rcases rg_cases x 0 (n - 1) (by omega) with ⟨c, c1, c2, c3⟩ | hx
  · by_cases h0 : n = 0
    · right
      intro hh
      rw [h0] at hh
      exact hh.1 hh.2
    · exact Or.inl ⟨c, by omega, c3⟩
  · right
    intro hh
    apply hx
    have h1 := hh.1
    have h2 := hh.2
    rw [Int32.lt_iff_toInt_lt, nI_toInt (by omega)] at h1 h2
    omega
theorem T_write (hs : SIM M B D) : GO (fun d => Ev (d + 2) 1) (fun d => Ev (d + 2) 54) [.int x] M B D := by
  (obtain ⟨p, v, g, rw, cl, bl, dm, a, kp, lt, L, s, w, tt, dp, h, hd, hr, eM, hv⟩ := id hs; obtain ⟨g9, gb, gu, gc, g55⟩ := CD_gb hd; have hb := hd.2.2.2.2.2.2; have rok := SIM_r hd hv; obtain ⟨v0, v1, v2, v3, v10, v11, vT, vS⟩ := id hv) 
  rcases rg_cases x 32 126 (by omega) with ⟨c, c1, c2, rfl⟩ | hx
  · by_cases hL : L < 200
    · obtain ⟨M1, k1, k2, k3, k4⟩ := N_write_ok h hd ⟨c1, c2⟩ hL
      refine GO_mk hr (nI (L + 1)) eM k1 (CD_up k2 (by omega)) k3 (fun d o _ => k4 d o) (fun hr1 => ⟨_, g, ?_, fun _ _ => rfl, fun d o => R_write_ok hr1 ⟨c1, c2⟩ vT.1 hL⟩)
      obtain ⟨t1, t2, t3, t4, t5⟩ := vT
      refine ⟨(vs_ne (by omega)).trans ((vs_ne (by omega)).trans v0), (vs_ne (by omega)).trans ((vs_ne (by omega)).trans v1), (vs_ne (by omega)).trans ((vs_ne (by omega)).trans v2), fun c hc => (vs_ne (by omega)).trans ((vs_ne (by omega)).trans (v3 c hc)), (vs_ne (by omega)).trans ((vs_ne (by omega)).trans v10), (vs_ne (by omega)).trans ((vs_ne (by omega)).trans v11), ⟨vs_same, by omega, fun k hk => (vs_ne (by omega)).trans ?_, fun k hk => ?_, fun k => ?_⟩, (vs_ne (by omega)).trans ((vs_ne (by omega)).trans vS.1), vS.2.1, fun q hq => ?_⟩
      · show _ = nI (if k = L then c else lt k)
        by_cases e : k = L
        · rw [e, vs_same, if_pos rfl]
        · rw [vs_ne (by omega), if_neg e]; exact t3 k (by omega)
      · show (if k = L then c else lt k) = 0
        rw [if_neg (by omega)]; exact t4 k (by omega)
      · show (if k = L then c else lt k) < 127
        split
        · omega
        · exact t5 k
      · obtain ⟨q1, q2, q3, q4⟩ := vS.2.2 q hq
        exact ⟨(vs_ne (by omega)).trans ((vs_ne (by omega)).trans q1), (vs_ne (by omega)).trans ((vs_ne (by omega)).trans q2), (vs_ne (by omega)).trans ((vs_ne (by omega)).trans q3), q4⟩
    · have hL2 : L = 200 := by have := vT.2.1; omega
      exact GO_id hs (-3) eM (fun d o => N_write_full h hd ⟨c1, c2⟩ hL2) (fun d o => R_write_full hr ⟨c1, c2⟩ (by rw [vT.1, hL2]))
  · exact GO_id hs (-1) eM (fun d o => N_write_bad h hx) (fun d o => R_write_bad hr hx)
theorem T_wipe (hs : SIM M B D) : GO (fun d => Ev (d + 2) 2) (fun d => Ev (d + 1) 55) [] M B D := by
  (obtain ⟨p, v, g, rw, cl, bl, dm, a, kp, lt, L, s, w, tt, dp, h, hd, hr, eM, hv⟩ := id hs; obtain ⟨g9, gb, gu, gc, g55⟩ := CD_gb hd; have hb := hd.2.2.2.2.2.2; have rok := SIM_r hd hv; obtain ⟨v0, v1, v2, v3, v10, v11, vT, vS⟩ := id hv) 
  obtain ⟨M1, k1, k2, k3, k4⟩ := N_wipe h hd
  refine GO_mk hr (nI L) eM k1 (CD_up k2 (by omega)) k3 (fun d o _ => k4 d o) (fun hr1 => ⟨_, g, ?_, fun _ _ => rfl, fun d o => by rw [← vT.1]; exact R_wipe hr1⟩)
  refine ⟨(vs_ne (by omega)).trans v0, (vs_ne (by omega)).trans v1, (vs_ne (by omega)).trans v2, fun c hc => (vs_ne (by omega)).trans (v3 c hc), (vs_ne (by omega)).trans v10, (vs_ne (by omega)).trans v11, ⟨vs_same, by omega, fun k hk => by omega, fun _ _ => rfl, fun _ => (by decide : (0:Nat) < 127)⟩, (vs_ne (by omega)).trans vS.1, vS.2.1, fun q hq => ?_⟩
  obtain ⟨q1, q2, q3, q4⟩ := vS.2.2 q hq
  exact ⟨(vs_ne (by omega)).trans q1, (vs_ne (by omega)).trans q2, (vs_ne (by omega)).trans q3, q4⟩
theorem T_fault (hs : SIM M B D) : GO (fun d => Ev (d + 7) 3) (fun d => Ev (d + 6) 61) [] M B D := by
  (obtain ⟨p, v, g, rw, cl, bl, dm, a, kp, lt, L, s, w, tt, dp, h, hd, hr, eM, hv⟩ := id hs; obtain ⟨g9, gb, gu, gc, g55⟩ := CD_gb hd; have hb := hd.2.2.2.2.2.2; have rok := SIM_r hd hv; obtain ⟨v0, v1, v2, v3, v10, v11, vT, vS⟩ := id hv) 
  obtain ⟨M1, k1, k2, k3, k4⟩ := N_fault h hd
  refine GO_look hr _ eM hd hv ⟨M1, k1, k2, k3, fun d o _ => k4 d o⟩ (fun M1 hr1 => ?_)
  obtain ⟨v', g', q1, q2, q3⟩ := R_fault_ok (g := g) hr1 vT (blk M (B + 22))
  exact ⟨v', g', VF_s hv q1, q2, fun d o => q3 d o⟩
theorem T_nail (hs : SIM M B D) : GO (fun d => Ev (d + 2) 5) (fun d => Ev (d + 3) 66) [.int x, .int y] M B D := by
  (obtain ⟨p, v, g, rw, cl, bl, dm, a, kp, lt, L, s, w, tt, dp, h, hd, hr, eM, hv⟩ := id hs; obtain ⟨g9, gb, gu, gc, g55⟩ := CD_gb hd; have hb := hd.2.2.2.2.2.2; have rok := SIM_r hd hv; obtain ⟨v0, v1, v2, v3, v10, v11, vT, vS⟩ := id hv) 
  rcases ix_cases x (g 0) (by omega) with ⟨i, hi, rfl⟩ | hx
  · rcases rg_cases y 0 5 (by omega) with ⟨k, _, hk, rfl⟩ | hy
    · exact GO_id hs _ eM (fun d o => N_nail_ok h hd hi hk) (fun d o => R_nail_ok hr rfl g9 hi hk gb)
    · exact GO_id hs (-1) eM (fun d o => N_nail_bad2 h hd hi hy) (fun d o => R_nail_bad2 hr rfl g9 hi hy)
  · exact GO_id hs (-1) eM (fun d o => N_nail_bad1 h hd hx) (fun d o => R_nail_bad1 hr rfl g9 hx)
theorem T_cell (hs : SIM M B D) : GO (fun d => Ev (d + 3) 6) (fun d => Ev (d + 3) 67) [.int x] M B D := by
  (obtain ⟨p, v, g, rw, cl, bl, dm, a, kp, lt, L, s, w, tt, dp, h, hd, hr, eM, hv⟩ := id hs; obtain ⟨g9, gb, gu, gc, g55⟩ := CD_gb hd; have hb := hd.2.2.2.2.2.2; have rok := SIM_r hd hv; obtain ⟨v0, v1, v2, v3, v10, v11, vT, vS⟩ := id hv) 
  have hm : rw * cl ≤ 6 * 6 := Nat.mul_le_mul hb.1.2 hb.2.1.2
  rcases ix_cases x (rw * cl) (by omega) with ⟨c, hc, rfl⟩ | hx
  · exact GO_id hs _ eM (fun d o => N_cell_ok h hd hc (by omega)) (fun d o => R_cell_ok hr v0 v1 (by omega) hc rfl g9 gb)
  · exact GO_id hs (-1) eM (fun d o => N_cell_bad h hd hx) (fun d o => R_cell_bad hr v0 v1 (by omega) hx)
theorem T_damp (hs : SIM M B D) : GO (fun d => Ev (d + 2) 7) (fun d => Ev (d + 2) 68) [.int x] M B D := by
  (obtain ⟨p, v, g, rw, cl, bl, dm, a, kp, lt, L, s, w, tt, dp, h, hd, hr, eM, hv⟩ := id hs; obtain ⟨g9, gb, gu, gc, g55⟩ := CD_gb hd; have hb := hd.2.2.2.2.2.2; have rok := SIM_r hd hv; obtain ⟨v0, v1, v2, v3, v10, v11, vT, vS⟩ := id hv) 
  rcases ix_cases x cl (by omega) with ⟨c, hc, rfl⟩ | hx
  · exact GO_id hs _ eM (fun d o => N_damp_ok h hd hc) (fun d o => R_damp_ok hr v1 hb.2.1.2 hc v3)
  · exact GO_id hs (-1) eM (fun d o => N_damp_bad h hd hx) (fun d o => R_damp_bad hr v1 hb.2.1.2 hx)
theorem T_pass (hs : SIM M B D) (hD : D ≤ 80000) : GO (fun d => Ev (d + 6) 8) (fun d => Ev (d + 5) 78) [.int x] M B D := by
  (obtain ⟨p, v, g, rw, cl, bl, dm, a, kp, lt, L, s, w, tt, dp, h, hd, hr, eM, hv⟩ := id hs; obtain ⟨g9, gb, gu, gc, g55⟩ := CD_gb hd; have hb := hd.2.2.2.2.2.2; have rok := SIM_r hd hv; obtain ⟨v0, v1, v2, v3, v10, v11, vT, vS⟩ := id hv) 
  have ha8 := hd.2.1.2.1
  rcases rg_cases x 1 30 (by omega) with ⟨N, n1, n2, rfl⟩ | hx
  · obtain ⟨M1, p', k1, k2, k3, k4⟩ := N_pass_ok h hd hD ⟨n1, n2⟩
    refine GO_mk hr _ eM k1 k2 k3 (fun d o _ => k4 d o) (fun hr1 => ?_)
    obtain ⟨v', q1, q2⟩ := R_pass_ok (d := 0) hr1 rok hD ⟨n1, n2⟩ v10 ha8
    exact ⟨v', _, VF_y (VF_a hv) q1, fun _ _ => rfl, fun d o => Ev_all q2 d o⟩
  · exact GO_id hs (-1) eM (fun d o => N_pass_bad h hx) (fun d o => R_pass_bad hr hx)
theorem T_hammer (hs : SIM M B D) : GO (fun d => Ev (d + 4) 9) (fun d => Ev (d + 3) 80) [.int x] M B D := by
  (obtain ⟨p, v, g, rw, cl, bl, dm, a, kp, lt, L, s, w, tt, dp, h, hd, hr, eM, hv⟩ := id hs; obtain ⟨g9, gb, gu, gc, g55⟩ := CD_gb hd; have hb := hd.2.2.2.2.2.2; have rok := SIM_r hd hv; obtain ⟨v0, v1, v2, v3, v10, v11, vT, vS⟩ := id hv) 
  have ha8 := hd.2.1.2.1
  rcases ix_cases x (g 0) (by omega) with ⟨i, hi, rfl⟩ | hx
  · by_cases c : g (19 + i) = 0 ∨ g (1 + i) = 3
    · exact GO_id hs (-2) eM (fun d o => N_hammer_no h hd hi c) (fun d o => R_hammer_no hr rfl g9 hi gb c)
    · obtain ⟨M1, p', k1, k2, k3, k4⟩ := N_hammer_ok h hd hi (fun e => c (Or.inl e)) (fun e => c (Or.inr e))
      exact GO_mk hr _ eM k1 (CD_up k2 (by omega)) k3 (fun d o _ => k4 d o) (fun hr1 => ⟨_, _, VF_a hv, fun _ _ => rfl, fun d o => R_hammer_ok hr1 rfl g9 hi gb (fun e => c (Or.inl e)) (fun e => c (Or.inr e)) v10 ha8⟩)
  · exact GO_id hs (-1) eM (fun d o => N_hammer_bad h hd hx) (fun d o => R_hammer_bad hr rfl g9 hx)
theorem T_oil (hs : SIM M B D) : GO (fun d => Ev (d + 4) 10) (fun d => Ev (d + 3) 81) [.int x] M B D := by
  (obtain ⟨p, v, g, rw, cl, bl, dm, a, kp, lt, L, s, w, tt, dp, h, hd, hr, eM, hv⟩ := id hs; obtain ⟨g9, gb, gu, gc, g55⟩ := CD_gb hd; have hb := hd.2.2.2.2.2.2; have rok := SIM_r hd hv; obtain ⟨v0, v1, v2, v3, v10, v11, vT, vS⟩ := id hv) 
  have ha8 := hd.2.1.2.1
  rcases ix_cases x (g 0) (by omega) with ⟨i, hi, rfl⟩ | hx
  · by_cases c : g (19 + i) = 0
    · exact GO_id hs (-2) eM (fun d o => N_oil_no h hd hi c) (fun d o => R_oil_no hr rfl g9 hi c)
    · obtain ⟨M1, p', k1, k2, k3, k4⟩ := N_oil_ok h hd hi c
      exact GO_mk hr _ eM k1 (CD_up k2 (by omega)) k3 (fun d o _ => k4 d o) (fun hr1 => ⟨_, _, VF_a hv, fun _ _ => rfl, fun d o => R_oil_ok hr1 rfl g9 hi gb c v10 ha8⟩)
  · exact GO_id hs (-1) eM (fun d o => N_oil_bad h hd hx) (fun d o => R_oil_bad hr rfl g9 hx)
theorem T_pull (hs : SIM M B D) : GO (fun d => Ev (d + 4) 11) (fun d => Ev (d + 3) 82) [.int x, .int y] M B D := by
  (obtain ⟨p, v, g, rw, cl, bl, dm, a, kp, lt, L, s, w, tt, dp, h, hd, hr, eM, hv⟩ := id hs; obtain ⟨g9, gb, gu, gc, g55⟩ := CD_gb hd; have hb := hd.2.2.2.2.2.2; have rok := SIM_r hd hv; obtain ⟨v0, v1, v2, v3, v10, v11, vT, vS⟩ := id hv) 
  have ha8 := hd.2.1.2.1
  rcases ix_cases x (g 0) (by omega) with ⟨i, hi, rfl⟩ | hx
  · rcases rg_cases y 1 9 (by omega) with ⟨k, k1, k2, rfl⟩ | hy
    · by_cases c : g (19 + i) < k
      · exact GO_id hs (-2) eM (fun d o => N_pull_no h hd hi ⟨k1, k2⟩ c) (fun d o => R_pull_no hr rfl g9 hi ⟨k1, k2⟩ c)
      · obtain ⟨M1, p', q1, q2, q3, q4⟩ := N_pull_ok h hd hi ⟨k1, k2⟩ c
        exact GO_mk hr _ eM q1 (CD_up q2 (by omega)) q3 (fun d o _ => q4 d o) (fun hr1 => ⟨_, _, VF_a hv, fun _ _ => rfl, fun d o => R_pull_ok hr1 rfl g9 hi ⟨k1, k2⟩ gb c v10 ha8⟩)
    · exact GO_id hs (-1) eM (fun d o => N_pull_bad2 h hd hi hy) (fun d o => R_pull_bad2 hr rfl g9 hi hy)
  · exact GO_id hs (-1) eM (fun d o => N_pull_bad1 h hd hx) (fun d o => R_pull_bad1 hr rfl g9 hx)
theorem T_drive (hs : SIM M B D) : GO (fun d => Ev (d + 4) 12) (fun d => Ev (d + 3) 83) [.int x, .int y, .int z, .int t] M B D := by
  (obtain ⟨p, v, g, rw, cl, bl, dm, a, kp, lt, L, s, w, tt, dp, h, hd, hr, eM, hv⟩ := id hs; obtain ⟨g9, gb, gu, gc, g55⟩ := CD_gb hd; have hb := hd.2.2.2.2.2.2; have rok := SIM_r hd hv; obtain ⟨v0, v1, v2, v3, v10, v11, vT, vS⟩ := id hv) 
  have ha8 := hd.2.1.2.1
  have hm : rw * cl ≤ 6 * 6 := Nat.mul_le_mul hb.1.2 hb.2.1.2
  rcases rg_cases x 0 4 (by omega) with ⟨k, _, hk, rfl⟩ | hx
  · have hcap : cap k < 2 ^ 31 := by unfold cap; split <;> decide
    rcases ix_cases y (rw * cl) (by omega) with ⟨c, hc, rfl⟩ | hy
    · rcases rg_cases z 1 (cap k) hcap with ⟨q, q1, q2, rfl⟩ | hz
      · rcases rg_cases t 0 63 (by omega) with ⟨e, _, e2, rfl⟩ | ht
        · by_cases hf : insG g 0 c (g 0) 0 = none
          · by_cases h9 : g 0 = 9
            · exact GO_id hs (-3) eM (fun d o => N_drive_full h hd hk hc ⟨q1, q2⟩ e2 hf h9) (fun d o => R_drive_full hr hk v0 v1 (by omega) hc ⟨q1, q2⟩ e2 h9 gb (by rw [h9] at hf; exact hf))
            · obtain ⟨M1, p', k1, k2, k3, k4⟩ := N_drive_ok h hd hk hc ⟨q1, q2⟩ e2 hf (by omega)
              exact GO_mk hr _ eM k1 (CD_up k2 (by omega)) k3 (fun d o _ => k4 d o) (fun hr1 => ⟨_, _, VF_a hv, fun _ _ => rfl, fun d o => R_drive_ok hr1 hk v0 v1 (by omega) hc ⟨q1, q2⟩ e2 rfl (by omega) gb hf v10 ha8⟩)
          · exact GO_id hs (-2) eM (fun d o => N_drive_no h hd hk hc ⟨q1, q2⟩ e2 hf) (fun d o => R_drive_no hr hk v0 v1 (by omega) hc ⟨q1, q2⟩ e2 rfl g9 gb hf)
        · exact GO_id hs (-1) eM (fun d o => N_drive_bad4 h hd hk hc ⟨q1, q2⟩ ht) (fun d o => R_drive_bad4 hr hk v0 v1 (by omega) hc ⟨q1, q2⟩ ht)
      · exact GO_id hs (-1) eM (fun d o => N_drive_bad3 h hd hk hc hz) (fun d o => R_drive_bad3 hr hk v0 v1 (by omega) hc hz)
    · exact GO_id hs (-1) eM (fun d o => N_drive_bad2 h hd hk hy) (fun d o => R_drive_bad2 hr hk v0 v1 (by omega) hy)
  · exact GO_id hs (-1) eM (fun d o => N_drive_bad1 h hx) (fun d o => R_drive_bad1 hr hx)
theorem T_undo (hs : SIM M B D) : GO (fun d => Ev (d + 4) 13) (fun d => Ev (d + 2) 84) [] M B D := by
  (obtain ⟨p, v, g, rw, cl, bl, dm, a, kp, lt, L, s, w, tt, dp, h, hd, hr, eM, hv⟩ := id hs; obtain ⟨g9, gb, gu, gc, g55⟩ := CD_gb hd; have hb := hd.2.2.2.2.2.2; have rok := SIM_r hd hv; obtain ⟨v0, v1, v2, v3, v10, v11, vT, vS⟩ := id hv) 
  have ha8 := hd.2.1.2.1
  by_cases c : a = 0
  · exact GO_id hs (-2) eM (fun d o => N_undo_no h hd c) (fun d o => R_undo_no hr (by rw [v10, c]))
  · obtain ⟨M1, k1, k2, k3, k4⟩ := N_undo_ok h hd (by omega)
    exact GO_mk hr _ eM k1 (CD_up k2 (by omega)) k3 (fun d o _ => k4 d o) (fun hr1 => ⟨_, _, VF_a hv, fun _ _ => rfl, fun d o => R_undo_ok hr1 v10 (by omega) ha8⟩)
end QST
