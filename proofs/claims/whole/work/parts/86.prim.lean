/-! ===== the small methods with longs, walked by the kit's rows ===== -/
theorem prim_of (l : Launch) {D : va_G} {dA : Nat → ClassId} {fx : qFx} {i d : Nat} {as : List Value} {M : qM} {v : Int32} {ty : FieldType} (hi : i < q_lawId) (hlen : (lg_sl as).length ≤ (q_meth i).2.2.1) (hret : (q_meth i).2.2.2.1 = some ty) (hn : narrow ty (.int v) = .int v)
    (walk : ∀ (p : Program) (e : Env) (R : Room) (s : State) (m : MethodId) (args : Array Value) (below : List Frame) (meth : Method) (c : Code) (H : Heap) (locs : List Loc) (cn nn : Nat) (Z : State → Prop), p.tables.exec = Jvm.exec → c.code = (q_meth i).2.1 → s.vm.findClass (q_own i) = some m.cls → (∀ w ∈ qBIG, w.before args s = true) → ∀ ls : Array Slot, lv_has ls (q_meth i).2.2.1 (lv_args 0 as) →
      (∀ (ls' : Array Slot) (pc : Nat), decode (q_meth i).2.1 pc = .ok (.ireturn, 1) → W p l e R s m args below meth c H locs cn nn Z (F0 m pc ls' [.int v])) → W p l e R s m args below meth c H locs cn nn Z (F0 m 0 ls [])) : qMet l (d + 1) i as D dA fx M (some (.int v), M) := by
  refine Met.ofW (cc := (q_meth i).2.1) (maxL := (q_meth i).2.2.1) (ret := (q_meth i).2.2.2.1) (mo_some hi).1 rfl ?_
  intro p e s m args below meth c s₁ B hml hv
  obtain ⟨rfl, hRep, hK⟩ := hv
  have hts0 := atoms_spec (ws := qWS i) B.pre
  have hts : ∀ w ∈ qBIG, w.before as.toArray s = true := fun w hw => hts0 w (List.mem_cons_of_mem _ hw)
  have hown : s.vm.findClass (q_own i) = some m.cls := findClass_of_methodNamed B.named
  have hr := B.returns
  have hlocks := B.notSynchronized
  rw [lg_entry_eq]
  refine walk p e _ s m as.toArray below meth c s.heap [] 0 0 _ B.exec B.bytes hown hts _ (lv_entry as hlen) (fun ls' pc hd => ?_)
  refine W.widen (k := (q_meth i).2.2.2.2.2.2.1) (n := (q_meth i).2.2.2.2.2.2.2) (Nat.zero_le _) (Nat.zero_le _) ?_
  have h2 : va_S (qAf M) s.heap s.heap [] := va_S.rf
  exact W.zret B.exec B.bytes (hr.trans hret) hn (fun t ht hW => ⟨rfl, by rw [ht]; exact hRep, fun q h1 h6 => Or.inl ⟨h1, h6⟩, h2.F ht⟩) h2.2.2 hd
theorem cmp_lt {x y : Int64} : lg_cmp x y < 0 ↔ x < y := by
  unfold lg_cmp
  split
  · next h => exact ⟨fun z => absurd z (by decide), fun z => absurd z (lg_lt_not h)⟩
  · split
    · next h1 h2 => subst h2; exact ⟨fun z => absurd z (by decide), fun z => absurd z h1⟩
    · next h1 h2 =>
      refine ⟨fun _ => ?_, fun _ => by decide⟩
      simp only [gt_iff_lt, Int64.lt_iff_toInt_lt, ← Int64.toInt_inj] at *
      omega
theorem cmp_gt {x y : Int64} : 0 < lg_cmp x y ↔ y < x := by
  unfold lg_cmp
  split
  · next h => exact ⟨fun z => h, fun z => by decide⟩
  · split
    · next h1 h2 => exact ⟨fun z => absurd z (by decide), fun z => absurd z h1⟩
    · next h1 h2 => exact ⟨fun z => absurd z (by decide), fun z => absurd z h1⟩
theorem dI_0 : decode (q_meth 47).2.1 0 = .ok (.lload_n 0, 1) := by decide +kernel
theorem dI_1 : decode (q_meth 47).2.1 1 = .ok (.lload_n 2, 1) := by decide +kernel
theorem dI_2 : decode (q_meth 47).2.1 2 = .ok (.lcmp, 1) := by decide +kernel
theorem dI_3 : decode (q_meth 47).2.1 3 = .ok (.ifCond .lt 14, 3) := by decide +kernel
theorem dI_6 : decode (q_meth 47).2.1 6 = .ok (.lload_n 0, 1) := by decide +kernel
theorem dI_7 : decode (q_meth 47).2.1 7 = .ok (.lload 4, 2) := by decide +kernel
theorem dI_9 : decode (q_meth 47).2.1 9 = .ok (.lcmp, 1) := by decide +kernel
theorem dI_10 : decode (q_meth 47).2.1 10 = .ok (.ifCond .gt 7, 3) := by decide +kernel
theorem dI_13 : decode (q_meth 47).2.1 13 = .ok (.iconst 1, 1) := by decide +kernel
theorem dI_14 : decode (q_meth 47).2.1 14 = .ok (.goto 4, 3) := by decide +kernel
theorem dI_17 : decode (q_meth 47).2.1 17 = .ok (.iconst 0, 1) := by decide +kernel
theorem dI_18 : decode (q_meth 47).2.1 18 = .ok (.ireturn, 1) := by decide +kernel
theorem prim_in (l : Launch) {D : va_G} {dA : Nat → ClassId} {fx : qFx} {d : Nat} {M : qM} {v lo hi : Int64} : qMet l (d + 1) 47 [.long v, .long lo, .long hi] D dA fx M (some (.int (if lo ≤ v ∧ v ≤ hi then 1 else 0)), M) := by
  refine prim_of l (ty := .boolean) (by decide +kernel) (Nat.le_of_ble_eq_true rfl) (by decide +kernel) (by split <;> decide +kernel) ?_
  intro p e R s m args below meth c H locs cn nn Z hx hb hown hts ls hl kk
  have hl : lv_has ls (q_meth 47).2.2.1 [(0, .long v), (2, .long lo), (4, .long hi)] := hl
  have end0 : ∀ z : Int32, z = (if lo ≤ v ∧ v ≤ hi then 1 else 0) → W p l e R s m args below meth c H locs cn nn Z (F0 m 18 ls [.int z]) := fun z hz => by rw [hz]; exact kk ls 18 dI_18
  have no : ¬ (lo ≤ v ∧ v ≤ hi) → W p l e R s m args below meth c H locs cn nn Z (F0 m 17 ls []) := fun h => lv_iconst hx hb dI_17 (v := 0) (by decide) (end0 0 (by rw [if_neg h]))
  refine lv_lload_n hx hb dI_0 rfl (lv_at hl 0 rfl) ?_
  refine lv_lload_n hx hb dI_1 rfl (lv_at hl 1 rfl) ?_
  refine W.lcmp hx hb dI_2 ?_
  refine lv_if_lt (tgt := 17) hx hb dI_3 (by decide) (fun h => no fun z => ?_) (fun h => ?_)
  · have := cmp_lt.mp h
    simp only [Int64.lt_iff_toInt_lt, Int64.le_iff_toInt_le] at *
    omega
  refine lv_lload_n hx hb dI_6 rfl (lv_at hl 0 rfl) ?_
  refine lv_lload hx hb dI_7 (lv_at hl 2 rfl) ?_
  refine W.lcmp hx hb dI_9 ?_
  refine lv_if_gt (tgt := 17) hx hb dI_10 (by decide) (fun h2 => no fun z => ?_) (fun h2 => ?_)
  · have := cmp_gt.mp h2
    simp only [Int64.lt_iff_toInt_lt, Int64.le_iff_toInt_le] at *
    omega
  refine lv_iconst hx hb dI_13 (v := 1) (by decide) ?_
  refine lv_goto (tgt := 18) hx hb dI_14 (by decide) ?_
  refine end0 1 ?_
  rw [if_pos]
  rw [cmp_lt] at h
  rw [cmp_gt] at h2
  simp only [Int64.lt_iff_toInt_lt, Int64.le_iff_toInt_le] at *
  omega
theorem dWN_0 : decode (q_meth 45).2.1 0 = .ok (.ldc2_w 298, 3) := by decide +kernel
theorem dWN_3 : decode (q_meth 45).2.1 3 = .ok (.iload_n 0, 1) := by decide +kernel
theorem dWN_4 : decode (q_meth 45).2.1 4 = .ok (.i2l, 1) := by decide +kernel
theorem dWN_5 : decode (q_meth 45).2.1 5 = .ok (.lmul, 1) := by decide +kernel
theorem dWN_6 : decode (q_meth 45).2.1 6 = .ok (.ldc2_w 300, 3) := by decide +kernel
theorem dWN_9 : decode (q_meth 45).2.1 9 = .ok (.iload_n 1, 1) := by decide +kernel
theorem dWN_10 : decode (q_meth 45).2.1 10 = .ok (.i2l, 1) := by decide +kernel
theorem dWN_11 : decode (q_meth 45).2.1 11 = .ok (.lmul, 1) := by decide +kernel
theorem dWN_12 : decode (q_meth 45).2.1 12 = .ok (.ladd, 1) := by decide +kernel
theorem dWN_13 : decode (q_meth 45).2.1 13 = .ok (.ldc2_w 302, 3) := by decide +kernel
theorem dWN_16 : decode (q_meth 45).2.1 16 = .ok (.iload_n 2, 1) := by decide +kernel
theorem dWN_17 : decode (q_meth 45).2.1 17 = .ok (.i2l, 1) := by decide +kernel
theorem dWN_18 : decode (q_meth 45).2.1 18 = .ok (.lmul, 1) := by decide +kernel
theorem dWN_19 : decode (q_meth 45).2.1 19 = .ok (.ladd, 1) := by decide +kernel
theorem dWN_20 : decode (q_meth 45).2.1 20 = .ok (.lconst 1, 1) := by decide +kernel
theorem dWN_21 : decode (q_meth 45).2.1 21 = .ok (.ladd, 1) := by decide +kernel
theorem dWN_22 : decode (q_meth 45).2.1 22 = .ok (.lstore_n 3, 1) := by decide +kernel
theorem dWN_23 : decode (q_meth 45).2.1 23 = .ok (.lload_n 3, 1) := by decide +kernel
theorem dWN_24 : decode (q_meth 45).2.1 24 = .ok (.lload_n 3, 1) := by decide +kernel
theorem dWN_25 : decode (q_meth 45).2.1 25 = .ok (.lmul, 1) := by decide +kernel
theorem dWN_26 : decode (q_meth 45).2.1 26 = .ok (.ldc2_w 304, 3) := by decide +kernel
theorem dWN_29 : decode (q_meth 45).2.1 29 = .ok (.lrem, 1) := by decide +kernel
theorem dWN_30 : decode (q_meth 45).2.1 30 = .ok (.ldc2_w 306, 3) := by decide +kernel
theorem dWN_33 : decode (q_meth 45).2.1 33 = .ok (.ldiv, 1) := by decide +kernel
theorem dWN_34 : decode (q_meth 45).2.1 34 = .ok (.l2i, 1) := by decide +kernel
theorem dWN_35 : decode (q_meth 45).2.1 35 = .ok (.ireturn, 1) := by decide +kernel
theorem wWN_0 : q_w 4030 (.constantLong (q_own 45) 298 (7919)) = true := by decide +kernel
theorem wWN_1 : q_w 4031 (.constantLong (q_own 45) 300 (6151)) = true := by decide +kernel
theorem wWN_2 : q_w 4032 (.constantLong (q_own 45) 302 (331)) = true := by decide +kernel
theorem wWN_3 : q_w 4033 (.constantLong (q_own 45) 304 (65521)) = true := by decide +kernel
theorem wWN_4 : q_w 4034 (.constantLong (q_own 45) 306 (8)) = true := by decide +kernel
theorem prim_drawN (l : Launch) {D : va_G} {dA : Nat → ClassId} {fx : qFx} {d : Nat} {M : qM} {z k n : Int32} : qMet l (d + 1) 45 [.int z, .int k, .int n] D dA fx M (some (.int (q_draw z k n)), M) := by
  refine prim_of l (ty := .int) (by decide +kernel) (Nat.le_of_ble_eq_true rfl) (by decide +kernel) rfl ?_
  intro p e R s m args below meth c H locs cn nn Z hx hb hown hts ls hl kk
  have hl : lv_has ls (q_meth 45).2.2.1 [(0, .int z), (1, .int k), (2, .int n)] := hl
  refine lv_ldc2 hx hb hown (hts _ (q_w_in wWN_0)) dWN_0 ?_
  refine lv_iload_n hx hb dWN_3 rfl (lv_at hl 0 rfl) ?_
  refine lv_i2l hx hb dWN_4 rfl ?_
  refine lv_lmul hx hb dWN_5 ?_
  refine lv_ldc2 hx hb hown (hts _ (q_w_in wWN_1)) dWN_6 ?_
  refine lv_iload_n hx hb dWN_9 rfl (lv_at hl 1 rfl) ?_
  refine lv_i2l hx hb dWN_10 rfl ?_
  refine lv_lmul hx hb dWN_11 ?_
  refine lv_ladd hx hb dWN_12 ?_
  refine lv_ldc2 hx hb hown (hts _ (q_w_in wWN_2)) dWN_13 ?_
  refine lv_iload_n hx hb dWN_16 rfl (lv_at hl 2 rfl) ?_
  refine lv_i2l hx hb dWN_17 rfl ?_
  refine lv_lmul hx hb dWN_18 ?_
  refine lv_ladd hx hb dWN_19 ?_
  refine lv_lconst hx hb (v := 1) dWN_20 (by decide) ?_
  refine lv_ladd hx hb dWN_21 ?_
  refine lv_lstore_n (lv' := [(3, .long (q_drawX z k n)), (0, .int z), (1, .int k), (2, .int n)]) hx hb dWN_22 rfl hl (by decide +kernel) rfl (fun ls hl => ?_)
  refine lv_lload_n hx hb dWN_23 rfl (lv_at hl 0 rfl) ?_
  refine lv_lload_n hx hb dWN_24 rfl (lv_at hl 0 rfl) ?_
  refine lv_lmul hx hb dWN_25 ?_
  refine lv_ldc2 hx hb hown (hts _ (q_w_in wWN_3)) dWN_26 ?_
  refine lv_lrem hx hb dWN_29 (by decide) ?_
  refine lv_ldc2 hx hb hown (hts _ (q_w_in wWN_4)) dWN_30 ?_
  refine lv_ldiv hx hb dWN_33 (by decide) ?_
  refine lv_l2i hx hb dWN_34 rfl ?_
  exact kk ls 35 dWN_35
theorem dWR_0 : decode (q_meth 100).2.1 0 = .ok (.ldc2_w 216, 3) := by decide +kernel
theorem dWR_3 : decode (q_meth 100).2.1 3 = .ok (.iload_n 0, 1) := by decide +kernel
theorem dWR_4 : decode (q_meth 100).2.1 4 = .ok (.i2l, 1) := by decide +kernel
theorem dWR_5 : decode (q_meth 100).2.1 5 = .ok (.lmul, 1) := by decide +kernel
theorem dWR_6 : decode (q_meth 100).2.1 6 = .ok (.ldc2_w 218, 3) := by decide +kernel
theorem dWR_9 : decode (q_meth 100).2.1 9 = .ok (.iload_n 1, 1) := by decide +kernel
theorem dWR_10 : decode (q_meth 100).2.1 10 = .ok (.i2l, 1) := by decide +kernel
theorem dWR_11 : decode (q_meth 100).2.1 11 = .ok (.lmul, 1) := by decide +kernel
theorem dWR_12 : decode (q_meth 100).2.1 12 = .ok (.ladd, 1) := by decide +kernel
theorem dWR_13 : decode (q_meth 100).2.1 13 = .ok (.ldc2_w 220, 3) := by decide +kernel
theorem dWR_16 : decode (q_meth 100).2.1 16 = .ok (.iload_n 2, 1) := by decide +kernel
theorem dWR_17 : decode (q_meth 100).2.1 17 = .ok (.i2l, 1) := by decide +kernel
theorem dWR_18 : decode (q_meth 100).2.1 18 = .ok (.lmul, 1) := by decide +kernel
theorem dWR_19 : decode (q_meth 100).2.1 19 = .ok (.ladd, 1) := by decide +kernel
theorem dWR_20 : decode (q_meth 100).2.1 20 = .ok (.lconst 1, 1) := by decide +kernel
theorem dWR_21 : decode (q_meth 100).2.1 21 = .ok (.ladd, 1) := by decide +kernel
theorem dWR_22 : decode (q_meth 100).2.1 22 = .ok (.lstore_n 3, 1) := by decide +kernel
theorem dWR_23 : decode (q_meth 100).2.1 23 = .ok (.lload_n 3, 1) := by decide +kernel
theorem dWR_24 : decode (q_meth 100).2.1 24 = .ok (.lload_n 3, 1) := by decide +kernel
theorem dWR_25 : decode (q_meth 100).2.1 25 = .ok (.lmul, 1) := by decide +kernel
theorem dWR_26 : decode (q_meth 100).2.1 26 = .ok (.ldc2_w 222, 3) := by decide +kernel
theorem dWR_29 : decode (q_meth 100).2.1 29 = .ok (.lrem, 1) := by decide +kernel
theorem dWR_30 : decode (q_meth 100).2.1 30 = .ok (.ldc2_w 212, 3) := by decide +kernel
theorem dWR_33 : decode (q_meth 100).2.1 33 = .ok (.ldiv, 1) := by decide +kernel
theorem dWR_34 : decode (q_meth 100).2.1 34 = .ok (.l2i, 1) := by decide +kernel
theorem dWR_35 : decode (q_meth 100).2.1 35 = .ok (.ireturn, 1) := by decide +kernel
theorem wWR_0 : q_w 5132 (.constantLong (q_own 100) 216 (7919)) = true := by decide +kernel
theorem wWR_1 : q_w 5133 (.constantLong (q_own 100) 218 (6151)) = true := by decide +kernel
theorem wWR_2 : q_w 5134 (.constantLong (q_own 100) 220 (331)) = true := by decide +kernel
theorem wWR_3 : q_w 5135 (.constantLong (q_own 100) 222 (65521)) = true := by decide +kernel
theorem wWR_4 : q_w 5122 (.constantLong (q_own 100) 212 (8)) = true := by decide +kernel
theorem prim_drawR (l : Launch) {D : va_G} {dA : Nat → ClassId} {fx : qFx} {d : Nat} {M : qM} {z k n : Int32} : qMet l (d + 1) 100 [.int z, .int k, .int n] D dA fx M (some (.int (q_draw z k n)), M) := by
  refine prim_of l (ty := .int) (by decide +kernel) (Nat.le_of_ble_eq_true rfl) (by decide +kernel) rfl ?_
  intro p e R s m args below meth c H locs cn nn Z hx hb hown hts ls hl kk
  have hl : lv_has ls (q_meth 100).2.2.1 [(0, .int z), (1, .int k), (2, .int n)] := hl
  refine lv_ldc2 hx hb hown (hts _ (q_w_in wWR_0)) dWR_0 ?_
  refine lv_iload_n hx hb dWR_3 rfl (lv_at hl 0 rfl) ?_
  refine lv_i2l hx hb dWR_4 rfl ?_
  refine lv_lmul hx hb dWR_5 ?_
  refine lv_ldc2 hx hb hown (hts _ (q_w_in wWR_1)) dWR_6 ?_
  refine lv_iload_n hx hb dWR_9 rfl (lv_at hl 1 rfl) ?_
  refine lv_i2l hx hb dWR_10 rfl ?_
  refine lv_lmul hx hb dWR_11 ?_
  refine lv_ladd hx hb dWR_12 ?_
  refine lv_ldc2 hx hb hown (hts _ (q_w_in wWR_2)) dWR_13 ?_
  refine lv_iload_n hx hb dWR_16 rfl (lv_at hl 2 rfl) ?_
  refine lv_i2l hx hb dWR_17 rfl ?_
  refine lv_lmul hx hb dWR_18 ?_
  refine lv_ladd hx hb dWR_19 ?_
  refine lv_lconst hx hb (v := 1) dWR_20 (by decide) ?_
  refine lv_ladd hx hb dWR_21 ?_
  refine lv_lstore_n (lv' := [(3, .long (q_drawX z k n)), (0, .int z), (1, .int k), (2, .int n)]) hx hb dWR_22 rfl hl (by decide +kernel) rfl (fun ls hl => ?_)
  refine lv_lload_n hx hb dWR_23 rfl (lv_at hl 0 rfl) ?_
  refine lv_lload_n hx hb dWR_24 rfl (lv_at hl 0 rfl) ?_
  refine lv_lmul hx hb dWR_25 ?_
  refine lv_ldc2 hx hb hown (hts _ (q_w_in wWR_3)) dWR_26 ?_
  refine lv_lrem hx hb dWR_29 (by decide) ?_
  refine lv_ldc2 hx hb hown (hts _ (q_w_in wWR_4)) dWR_30 ?_
  refine lv_ldiv hx hb dWR_33 (by decide) ?_
  refine lv_l2i hx hb dWR_34 rfl ?_
  exact kk ls 35 dWR_35
theorem pk_cases {i : Nat} (h : ¬ q_pk i = 0) : (i = 47 ∧ q_pk i = 1) ∨ ((i = 45 ∨ i = 100) ∧ q_pk i = 2) := by
  unfold q_pk at h ⊢
  by_cases h1 : i = 47
  · subst h1; exact Or.inl ⟨rfl, rfl⟩
  · by_cases h2 : i = 45
    · subst h2; exact Or.inr ⟨Or.inl rfl, rfl⟩
    · by_cases h3 : i = 100
      · subst h3; exact Or.inr ⟨Or.inr rfl, rfl⟩
      · exfalso
        apply h
        have e : q_pks.find? (fun q => Nat.beq q.1 i) = none := by
          rw [List.find?_eq_none]
          intro q hq
          simp only [q_pks, List.mem_cons, List.not_mem_nil, or_false] at hq
          rcases hq with rfl | rfl | rfl <;> simp [Nat.beq_eq] <;> omega
        rw [e]
theorem hprim (l : Launch) (D : va_G) (dA : Nat → ClassId) (fx : qFx) : ∀ d i as M o, i < q_lawId → ¬ q_pk i = 0 → as.length = (q_meth i).2.2.2.2.1 → q_prim i as M = some o → qMet l (d + 1) i as D dA fx M o := by
  intro d i as M o hi hk hl e
  unfold q_prim at e
  rcases pk_cases hk with ⟨rfl, h⟩ | ⟨hi2, h⟩
  · rw [h] at e
    split at e
    · cases e; exact prim_in l
    · next h2 => cases h2
    · cases e
  · rw [h] at e
    split at e
    · next h2 => cases h2
    · cases e
      rcases hi2 with rfl | rfl
      · exact prim_drawN l
      · exact prim_drawR l
    · cases e
