section QRJ
variable {d R a i j n b cl bl rw c L s D : Nat} {M : qM} {v : qV} {g al mo dm w tt dp : Nat → Nat} {o : qOut} {x y : Int32} {rg : Bool}
theorem rSaw_eqy {v' : qV} (h : rSaw v s w tt dp) (e : eqy v v') : rSaw v' s w tt dp :=
  ⟨(e 0 17 (by omega) (by omega) (by omega)).trans h.1, h.2.1, fun q hq => ⟨(e 5 q (by omega) (by omega) (by omega)).trans (h.2.2 q hq).1, (e 6 q (by omega) (by omega) (by omega)).trans (h.2.2 q hq).2.1, (e 7 q (by omega) (by omega) (by omega)).trans (h.2.2 q hq).2.2.1, (h.2.2 q hq).2.2.2⟩⟩
theorem eqy_refl : eqy v v := fun _ _ _ _ _ => rfl
theorem eqy_trans {v' v'' : qV} (h : eqy v v') (h' : eqy v' v'') : eqy v v'' := fun j k h1 h2 h3 => (h' j k h1 h2 h3).trans (h j k h1 h2 h3)
theorem rOK_eqy {v' : qV} {g' : Nat → Nat} (h : rOK v g dm rw cl bl n D) (e : eqy v v') (eg : ∀ k, k < 616 ∨ 672 ≤ k → g' k = g k) : rOK v' g' dm rw cl bl n D := by
  obtain ⟨h1, h2, h3, h4, h5, h6, h7, h8, h9, h10, h11⟩ := h
  refine ⟨(eg 0 (by omega)).trans h1, h2, (e _ _ (by omega) (by omega) (by omega)).trans h3, h4, (e _ _ (by omega) (by omega) (by omega)).trans h5, h6, (e _ _ (by omega) (by omega) (by omega)).trans h7, h8, fun c hc => ⟨(e _ _ (by omega) (by omega) (by omega)).trans (h9 c hc).1, (h9 c hc).2⟩, fun i hi => ?_, by rw [eg 55 (by omega)]; exact h11⟩
  have := h10 i hi
  rw [eg _ (by omega), eg _ (by omega), eg _ (by omega), eg _ (by omega), eg _ (by omega)]
  exact this
theorem cpG_eq {g' : Nat → Nat} (eg : ∀ k, k < 616 ∨ 672 ≤ k → g' k = g k) : cpG g' 0 616 56 = cpG g 0 616 56 := by
  funext j
  unfold cpG
  by_cases h : 616 ≤ j ∧ j < 616 + 56
  · rw [if_pos h, if_pos h, eg _ (by omega)]
  · rw [if_neg h, if_neg h, eg _ (by omega)]
end QRJ
