/-! ===== THE START: what the Statement's words give ===== -/
section QSTART
variable {s : State} {args : Array Value}
theorem st_cls (hts : ∀ w ∈ qBIG, w.before args s = true) (hin : ∀ ci, ci < 9 → Cond.instantiable (q_cR ci) (q_cN ci) ∈ qBIG) : ∃ (D : va_G), ∀ (k : Nat) (q : vw_C), vwCl[k]? = some q → u_Kn s q.1 q.2.1 q.2.2 (D.1 k) (D.2 k) := by
  have h : ∀ k : Nat, ∃ z : ClassId × (Nat → Nat), k < 9 → u_Kn s (q_cR k) (q_cT k) (q_cN k) z.1 z.2 := fun k => by
    by_cases hk : k < 9
    · obtain ⟨c, f, h⟩ := u_known (C := q_cR k) (T := q_cT k) (N := q_cN k) (n := q_cN k) hts (q_cw k hk) (hts _ (hin k hk))
      exact ⟨(c, f), fun _ => h⟩
    · exact ⟨(0, fun _ => 0), fun h => absurd h hk⟩
  obtain ⟨f, hf⟩ := Classical.axiomOfChoice h
  refine ⟨(fun k => (f k).1, fun k => (f k).2), fun k q hq => ?_⟩
  have hk : k < 9 := (List.getElem?_eq_some_iff.mp hq).1
  have e : q = (q_cR k, q_cT k, q_cN k) := Option.some.inj (hq.symm.trans (q_cl k hk))
  rw [e]
  exact hf k hk
theorem st_arr_i (h : (Cond.arrayClass .int).before args s = true) : ∃ cA : ClassId, ArrOfT s cA .int ∧ va_RA s cA .int := by
  obtain ⟨c, k, comp, h1, h2, h3⟩ := Cond.arrayClass_spec h
  exact ⟨c, fun n z => ⟨fun k h => (by cases h), k, h2, comp, h3⟩, h1⟩
theorem st_arr_b (h : (Cond.arrayClass .byte).before args s = true) : ∃ cA : ClassId, ArrOfT s cA .byte ∧ va_RA s cA .byte := by
  obtain ⟨c, k, comp, h1, h2, h3⟩ := Cond.arrayClass_spec h
  exact ⟨c, fun n z => ⟨fun k h => (by cases h), k, h2, comp, h3⟩, h1⟩
theorem st_obj {C : String} (h : va_AO C s) : ∃ cA : ClassId, ArrOfT s cA (.object C) ∧ va_RA s cA (.object C) := by
  obtain ⟨comp, c, k, h1, h2, h3, h4, h5⟩ := Cond.arrayOver_spec h
  exact ⟨c, fun n z => ⟨fun k h => (by cases h), k, h3, comp, h4⟩, k, comp, h3, h4, h1, h5⟩
theorem st_aoa (h : q_AOA s) : ∃ cA : ClassId, ArrOfT s cA (.array .int) ∧ va_RA s cA (.array .int) := by
  obtain ⟨comp, c, k, h1, h2, h3, h4, h5⟩ := q_over_spec h
  exact ⟨c, fun n z => ⟨fun k h => (by cases h), k, h3, comp, h4⟩, h5⟩
theorem st_in : ∀ ci, ci < 9 → Cond.instantiable (q_cR ci) (q_cN ci) ∈ qBIG := by
  intro ci h
  have : ci = 0 ∨ ci = 1 ∨ ci = 2 ∨ ci = 3 ∨ ci = 4 ∨ ci = 5 ∨ ci = 6 ∨ ci = 7 ∨ ci = 8 := by omega
  rcases this with rfl | rfl | rfl | rfl | rfl | rfl | rfl | rfl | rfl
  · exact q_w_in (p := 2106) (by decide +kernel)
  · exact q_w_in (p := 1041) (by decide +kernel)
  · exact q_w_in (p := 2086) (by decide +kernel)
  · exact q_w_in (p := 1120) (by decide +kernel)
  · exact q_w_in (p := 1025) (by decide +kernel)
  · exact q_w_in (p := 1113) (by decide +kernel)
  · exact q_w_in (p := 2066) (by decide +kernel)
  · exact q_w_in (p := 1017) (by decide +kernel)
  · exact q_w_in (p := 4058) (by decide +kernel)
theorem st_K (hts : ∀ w ∈ lw_tbl, w.before args s = true) : ∃ (D : va_G) (dA : Nat → ClassId), va_K D vwCl (q_tys dA) s ∧ va_AO "NailedYears$Nail" s ∧ va_AO "NailedYears$Wall" s ∧ q_AOA s ∧ ∀ w ∈ qNST, va_Nw w s := by
  have hb : ∀ w ∈ qBIG, w.before args s = true := fun w hw => hts w (List.mem_filter.mp hw).1
  obtain ⟨D, hD⟩ := st_cls hb st_in
  have hN : va_AO "NailedYears$Nail" s := hts (.arrayOver (.object "NailedYears$Nail")) (by decide +kernel)
  have hW : va_AO "NailedYears$Wall" s := hts (.arrayOver (.object "NailedYears$Wall")) (by decide +kernel)
  have hA : q_AOA s := hts (.arrayOver (.array .int)) (by decide +kernel)
  obtain ⟨c2, x2, y2⟩ := st_arr_i (hb _ (q_w_in q_ac2))
  obtain ⟨c3, x3, y3⟩ := st_arr_b (hb _ (q_w_in q_ac3))
  obtain ⟨c4, x4, y4⟩ := st_obj hN
  obtain ⟨c5, x5, y5⟩ := st_obj hW
  obtain ⟨c6, x6, y6⟩ := st_aoa hA
  refine ⟨D, fun k => if k = 2 then c2 else if k = 3 then c3 else if k = 4 then c4 else if k = 5 then c5 else c6, ⟨hD, fun k q hq => ?_⟩, hN, hW, hA, fun w hw => ?_⟩
  · match k, hq with
    | 0, hq => cases hq; exact ⟨x2, y2⟩
    | 1, hq => cases hq; exact ⟨x3, y3⟩
    | 2, hq => cases hq; exact ⟨x4, y4⟩
    | 3, hq => cases hq; exact ⟨x5, y5⟩
    | 4, hq => cases hq; exact ⟨x6, y6⟩
    | k + 5, hq => cases hq
  · have h1 := hts w (List.mem_filter.mp hw).1
    have h8 : q_nst w = true := (List.mem_filter.mp hw).2
    cases w with
    | fieldLinkNest a i b n d h => exact va_Nw.of rfl h1
    | methodLinkNest a i x h => exact va_Nw.of rfl h1
    | _ => cases h8
theorem st_J (hts : ∀ w ∈ lw_tbl, w.before args s = true) (hgv : (Jvm.Cond.and given_1 narrow_1).before args s = true) : ∃ sa sv : Nat, vk_R "NailedYears" 275 jTX sa s ∧ qJF sa sv s s.heap := by
  have hs := flat_of_before _ hgv
  have hA : ∀ a : Nat, a < s.heap.size → ¬ (fun _ : Nat => False) a := fun _ _ h => h
  have hel : ∀ j : Nat, j < 82 → (Cond.eq (.elem (.field (.string "NailedYears" 275) "java/lang/String" "value" "[B") (.int (Int32.ofNat j))) (.int (jB.getD j 0))).before args s = true := fun j hj => hs _ ((by decide +kernel : ∀ j : Nat, j < 82 → Cond.eq (.elem (.field (.string "NailedYears" 275) "java/lang/String" "value" "[B") (.int (Int32.ofNat j))) (.int (jB.getD j 0)) ∈ _) j hj)
  obtain ⟨adK, adV, h1, h2⟩ := vk_Sof (N := 1) (tm := fun _ => .string "NailedYears" 275) (len := [82]) (byt := [jB]) (A := fun _ => False) (args := args) (s := s) (fun i hi => by rw [show i = 0 by omega]; decide) (fun i hi => hs _ (by decide +kernel)) (fun i hi => hs _ (by decide +kernel)) (fun i hi => hs _ (by decide +kernel)) (fun i hi => by rw [show i = 0 by omega]; exact hs _ (by decide +kernel)) (fun i hi j hj => by
      have e : i = 0 := by omega
      subst e
      exact hel j hj) (fun i j hi hj h => absurd (show i = j by omega) h) hA
  refine ⟨adK 0, adV 0, vk_R.of (hts (.stringRef "NailedYears" 275 jTX) (by decide +kernel)) (h2 0 (by omega)), ⟨⟨fun i hi => ?_, fun i j hi hj _ => by omega⟩, va_Zof (hts (.laysStatic "java/lang/String" "COMPACT_STRINGS" "Z") (by decide +kernel)) (hts (.initialized "java/lang/String") (by decide +kernel)) (va_eqt (hs _ (by decide +kernel))) hA, va_Zqof (hts (.laysStatic "jdk/internal/util/Preconditions" "SIOOBE_FORMATTER" "Ljava/util/function/BiFunction;") (by decide +kernel)) (hts (.initialized "jdk/internal/util/Preconditions") (by decide +kernel)) (hs _ (by decide +kernel)) hA⟩⟩
  have e : i = 0 := by omega
  subst e
  exact h1.1 0 hi
end QSTART
