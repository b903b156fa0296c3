/-! ===== THE STRING CONSTANT: ldc_w, length, charAt ===== -/
section QSTR
variable {p : Program} {l : Launch} {e : Env} {R : Room} {s : State} {m : MethodId} {args : Array Value} {below : List Frame} {meth : Method} {c : Code} {Z : State → Prop} {H : Heap} {locs : List Loc} {cn nn : Nat}
theorem q_ldcS {cc : ByteArray} {pc : Nat} {ls : Array Slot} {rest : List Value} (hexec : p.tables.exec = Jvm.exec) (hb : c.code = cc) {own tx : String} {index q : Nat} (hown : s.vm.findClass own = some m.cls) (hZ : vk_R own index tx q s) (hdg : decode cc pc = .ok (.ldc_w index, 3))
    (k : W p l e R s m args below meth c H locs cn nn Z (F0 m (pc + 3) ls (.ref q :: rest))) : W p l e R s m args below meth c H locs cn nn Z (F0 m pc ls rest) := by
  intro T hT X
  obtain ⟨t, a1, b1⟩ := k T hT X
  exact ⟨t, X.ldcStringW hexec hown (text := tx) (a := q) hZ.1 hZ.2 (g := F0 m pc ls rest) rfl (by rw [hb]; exact hdg) t a1, b1⟩
/-- a call of the JDK's that writes nothing -/
def jMet (l : Launch) (y : MethodName) (cc : ByteArray) (maxL : Nat) (ret : Option FieldType) (d : Nat) (as : List Value) (sa sv : Nat) (v : Option Value) : Prop := Met l y (.code y cc maxL ret :: qBIG) { frames := d, cells := 0, slots := 0, locals := 40 * d } (va_Pc as (fun U => qJF sa sv U U.heap)) (fun _ st oc t => oc = .returned v ∧ t.heap = st.heap) 0 0 (fun _ => False)
theorem j_good {y : MethodName} {cc : ByteArray} {maxL : Nat} {ret : Option FieldType} (h : Cond.code y cc maxL ret ∈ qBIG) : GoodIn qBIG (.code y cc maxL ret :: qBIG) := by
  intro w hw
  rcases List.mem_cons.mp hw with rfl | hw
  · exact ⟨h, good_of_word (qBIG_good _ h)⟩
  · exact ⟨hw, good_of_word (qBIG_good _ hw)⟩
theorem j_after {pc : Nat} {ls : Array Slot} {rest st0 : List Value} {v : Option Value} (hr : va_Run p l e R s m args below meth c H locs cn nn 0 0 (F0 m pc ls st0) rest (fun (st : State) (oc : Outcome) (t : State) => oc = .returned v ∧ t.heap = st.heap) (fun _ => False))
    (kk : W p l e R s m args below meth c H locs cn nn Z (F0 m (pc + 3) ls (v.toList ++ rest))) : W p l e R s m args below meth c H locs cn nn Z (F0 m pc ls st0) := by
  intro T hT Xs
  obtain ⟨w, st₀, t, T', Lx, h0, X', hLx, e1, e2, ⟨hv, hh⟩, stp⟩ := hr T hT Xs
  have hv : w = v := Outcome.returned.inj hv
  subst hv
  have hL : Lx = [] := List.eq_nil_iff_forall_not_mem.mpr fun q hq => hLx q hq
  subst hL
  rw [List.append_nil] at X'
  obtain ⟨t2, a1, b1⟩ := kk T' (by rw [e1, hh, h0]) X'
  exact ⟨t2, stp t2 a1, b1⟩
theorem j_blind {as : List Value} {sa sv : Nat} : FrameBlind (va_Pc as (fun U => qJF sa sv U U.heap)) := fun a U g mk q => ⟨q.1, qJF.moved (u := U) (U := U.calling g mk a) (State.WarmedH.refl U).alike q.2⟩
/-- a body of the JDK's, walked at its entry's heap -/
theorem j_of (l : Launch) {y : MethodName} {cc : ByteArray} {maxL d : Nat} {ret : Option FieldType} {as : List Value} {sa sv : Nat} {v : Option Value} (hy : plainName y.cls = true) (hlen : (lg_sl as).length ≤ maxL) (hret : match v with | none => ret = none | some (.int z) => ∃ ty, ret = some ty ∧ narrow ty (.int z) = .int z | _ => False)
    (walk : ∀ (p : Program) (e : Env) (R : Room) (s : State) (m : MethodId) (args : Array Value) (below : List Frame) (meth : Method) (c : Code) (Z : State → Prop), R.frames = d → R.locals = 40 * d → p.tables.exec = Jvm.exec → c.code = cc → c.maxLocals = maxL → s.vm.findClass y.cls = some m.cls → (∀ w ∈ qBIG, w.before args s = true) → qJF sa sv s s.heap →
      ∀ ls : Array Slot, lv_has ls maxL (lv_args 0 as) → (∀ (ls' : Array Slot) (pc : Nat), (match v with | none => decode cc pc = .ok (.return_, 1) | some _ => decode cc pc = .ok (.ireturn, 1)) → W p l e R s m args below meth c s.heap [] 0 0 Z (F0 m pc ls' v.toList)) → W p l e R s m args below meth c s.heap [] 0 0 Z (F0 m 0 ls [])) : jMet l y cc maxL ret d as sa sv v := by
  refine Met.ofW (cc := cc) (maxL := maxL) (ret := ret) hy rfl ?_
  intro p e s m args below meth c s₁ B hml hv
  obtain ⟨rfl, hJ⟩ := hv
  have hts0 := atoms_spec (ws := .code y cc maxL ret :: qBIG) B.pre
  have hts : ∀ w ∈ qBIG, w.before as.toArray s = true := fun w hw => hts0 w (List.mem_cons_of_mem _ hw)
  have hown : s.vm.findClass y.cls = some m.cls := findClass_of_methodNamed B.named
  have hr := B.returns
  have hlocks := B.notSynchronized
  rw [lg_entry_eq]
  refine walk p e _ s m as.toArray below meth c _ rfl rfl B.exec B.bytes hml hown hts hJ _ (lv_entry as hlen) (fun ls' pc hd => ?_)
  match v, hret, hd with
  | none, hret, hd => exact W.vret B.exec B.bytes (hr.trans hret) (fun t ht hW => ⟨rfl, ht⟩) (fun _ h => nomatch h) hd
  | some (.int z), hret, hd =>
    obtain ⟨ty, h8, h9⟩ := hret
    exact W.zret B.exec B.bytes (hr.trans h8) h9 (fun t ht hW => ⟨rfl, ht⟩) (fun _ h => nomatch h) hd
theorem dP_0 : decode cJ3_checkIndex_8e157 0 = .ok (.iload_n 0, 1) := by decide +kernel
theorem dP_1 : decode cJ3_checkIndex_8e157 1 = .ok (.ifCond .lt 8, 3) := by decide +kernel
theorem dP_4 : decode cJ3_checkIndex_8e157 4 = .ok (.iload_n 0, 1) := by decide +kernel
theorem dP_5 : decode cJ3_checkIndex_8e157 5 = .ok (.iload_n 1, 1) := by decide +kernel
theorem dP_6 : decode cJ3_checkIndex_8e157 6 = .ok (.if_icmp .lt 10, 3) := by decide +kernel
theorem dP_16 : decode cJ3_checkIndex_8e157 16 = .ok (.iload_n 0, 1) := by decide +kernel
theorem dP_17 : decode cJ3_checkIndex_8e157 17 = .ok (.ireturn, 1) := by decide +kernel
theorem j_pre (l : Launch) {sa sv i n : Nat} {f : Value} (hf : f = .null ∨ ∃ t, f = .ref t) (hi : i < n) (hn : n < 2 ^ 31) : jMet l yJ3_checkIndex_8e157 cJ3_checkIndex_8e157 3 (some .int) 1 [.int (nI i), .int (nI n), f] sa sv (some (.int (nI i))) := by
  refine j_of l (by decide +kernel) ?_ ⟨.int, rfl, vp_nar_int _⟩ ?_
  · rcases hf with rfl | ⟨t, rfl⟩ <;> exact Nat.le_refl 3
  · intro p e R s m args below meth c Z hf hl hx hb hml hown hts hJ ls hl kk
    refine lv_iload_n hx hb dP_0 rfl (lv_at hl 0 rfl) ?_
    refine lv_if_lt (tgt := 9) hx hb dP_1 (by decide) (fun h => absurd h (nI_pos (by omega))) (fun h => ?_)
    refine lv_iload_n hx hb dP_4 rfl (lv_at hl 0 rfl) ?_
    refine lv_iload_n hx hb dP_5 rfl (lv_at hl 1 rfl) ?_
    refine lv_icmp_lt (tgt := 16) hx hb dP_6 (by decide) (fun h => ?_) (fun h => absurd (nI_lt hi hn) h)
    refine lv_iload_n hx hb dP_16 rfl (lv_at hl 0 rfl) ?_
    exact kk ls 17 dP_17
theorem dK_0 : decode cJ0_checkIndex_df160 0 = .ok (.iload_n 0, 1) := by decide +kernel
theorem dK_1 : decode cJ0_checkIndex_df160 1 = .ok (.iload_n 1, 1) := by decide +kernel
theorem dK_2 : decode cJ0_checkIndex_df160 2 = .ok (.getstatic 1053, 3) := by decide +kernel
theorem dK_5 : decode cJ0_checkIndex_df160 5 = .ok (.invokestatic 1059, 3) := by decide +kernel
theorem dK_8 : decode cJ0_checkIndex_df160 8 = .ok (.pop, 1) := by decide +kernel
theorem dK_9 : decode cJ0_checkIndex_df160 9 = .ok (.return_, 1) := by decide +kernel
theorem dL_0 : decode cJ1_charAt_3b067 0 = .ok (.iload_n 1, 1) := by decide +kernel
theorem dL_1 : decode cJ1_charAt_3b067 1 = .ok (.aload_n 0, 1) := by decide +kernel
theorem dL_2 : decode cJ1_charAt_3b067 2 = .ok (.arraylength, 1) := by decide +kernel
theorem dL_3 : decode cJ1_charAt_3b067 3 = .ok (.invokestatic 9, 3) := by decide +kernel
theorem dL_6 : decode cJ1_charAt_3b067 6 = .ok (.aload_n 0, 1) := by decide +kernel
theorem dL_7 : decode cJ1_charAt_3b067 7 = .ok (.iload_n 1, 1) := by decide +kernel
theorem dL_8 : decode cJ1_charAt_3b067 8 = .ok (.baload, 1) := by decide +kernel
theorem dL_9 : decode cJ1_charAt_3b067 9 = .ok (.sipush 255, 3) := by decide +kernel
theorem dL_12 : decode cJ1_charAt_3b067 12 = .ok (.iand, 1) := by decide +kernel
theorem dL_13 : decode cJ1_charAt_3b067 13 = .ok (.i2c, 1) := by decide +kernel
theorem dL_14 : decode cJ1_charAt_3b067 14 = .ok (.ireturn, 1) := by decide +kernel
theorem dC_0 : decode cJ0_charAt_5068e 0 = .ok (.aload_n 0, 1) := by decide +kernel
theorem dC_1 : decode cJ0_charAt_5068e 1 = .ok (.invokevirtual 492, 3) := by decide +kernel
theorem dC_4 : decode cJ0_charAt_5068e 4 = .ok (.ifCond .eq 12, 3) := by decide +kernel
theorem dC_7 : decode cJ0_charAt_5068e 7 = .ok (.aload_n 0, 1) := by decide +kernel
theorem dC_8 : decode cJ0_charAt_5068e 8 = .ok (.getfield 9, 3) := by decide +kernel
theorem dC_11 : decode cJ0_charAt_5068e 11 = .ok (.iload_n 1, 1) := by decide +kernel
theorem dC_12 : decode cJ0_charAt_5068e 12 = .ok (.invokestatic 495, 3) := by decide +kernel
theorem dC_15 : decode cJ0_charAt_5068e 15 = .ok (.ireturn, 1) := by decide +kernel
theorem dT_0 : decode cJ0_isLatin1_aae02 0 = .ok (.getstatic 38, 3) := by decide +kernel
theorem dT_3 : decode cJ0_isLatin1_aae02 3 = .ok (.ifCond .eq 14, 3) := by decide +kernel
theorem dT_6 : decode cJ0_isLatin1_aae02 6 = .ok (.aload_n 0, 1) := by decide +kernel
theorem dT_7 : decode cJ0_isLatin1_aae02 7 = .ok (.getfield 15, 3) := by decide +kernel
theorem dT_10 : decode cJ0_isLatin1_aae02 10 = .ok (.ifCond .ne 7, 3) := by decide +kernel
theorem dT_13 : decode cJ0_isLatin1_aae02 13 = .ok (.iconst 1, 1) := by decide +kernel
theorem dT_14 : decode cJ0_isLatin1_aae02 14 = .ok (.goto 4, 3) := by decide +kernel
theorem dT_18 : decode cJ0_isLatin1_aae02 18 = .ok (.ireturn, 1) := by decide +kernel
theorem dO_0 : decode cJ0_coder_7d493 0 = .ok (.getstatic 38, 3) := by decide +kernel
theorem dO_3 : decode cJ0_coder_7d493 3 = .ok (.ifCond .eq 10, 3) := by decide +kernel
theorem dO_6 : decode cJ0_coder_7d493 6 = .ok (.aload_n 0, 1) := by decide +kernel
theorem dO_7 : decode cJ0_coder_7d493 7 = .ok (.getfield 15, 3) := by decide +kernel
theorem dO_10 : decode cJ0_coder_7d493 10 = .ok (.goto 4, 3) := by decide +kernel
theorem dO_14 : decode cJ0_coder_7d493 14 = .ok (.ireturn, 1) := by decide +kernel
theorem dN_0 : decode cJ0_length_8abf5 0 = .ok (.aload_n 0, 1) := by decide +kernel
theorem dN_1 : decode cJ0_length_8abf5 1 = .ok (.getfield 9, 3) := by decide +kernel
theorem dN_4 : decode cJ0_length_8abf5 4 = .ok (.arraylength, 1) := by decide +kernel
theorem dN_5 : decode cJ0_length_8abf5 5 = .ok (.aload_n 0, 1) := by decide +kernel
theorem dN_6 : decode cJ0_length_8abf5 6 = .ok (.invokevirtual 335, 3) := by decide +kernel
theorem dN_9 : decode cJ0_length_8abf5 9 = .ok (.ishr, 1) := by decide +kernel
theorem dN_10 : decode cJ0_length_8abf5 10 = .ok (.ireturn, 1) := by decide +kernel
theorem jw_code_K : (.code yJ0_checkIndex_df160 cJ0_checkIndex_df160 2 none) ∈ qBIG := q_w_in (p := 1083) (by decide +kernel)
theorem jw_st_K : (.static yJ0_checkIndex_df160) ∈ qBIG := q_w_in (p := 1082) (by decide +kernel)
theorem jw_code_P : (.code yJ3_checkIndex_8e157 cJ3_checkIndex_8e157 3 (some .int)) ∈ qBIG := q_w_in (p := 1088) (by decide +kernel)
theorem jw_st_P : (.static yJ3_checkIndex_8e157) ∈ qBIG := q_w_in (p := 1087) (by decide +kernel)
theorem jw_in_P : (.initialized "jdk/internal/util/Preconditions") ∈ qBIG := q_w_in (p := 1006) (by decide +kernel)
theorem jw_lk_P : (.methodLink "java/lang/String" 1059 yJ3_checkIndex_8e157) ∈ qBIG := q_w_in (p := 1086) (by decide +kernel)
theorem jw_fl_S : (.fieldLink "java/lang/String" 1053 "jdk/internal/util/Preconditions" "SIOOBE_FORMATTER" "Ljava/util/function/BiFunction;") ∈ qBIG := q_w_in (p := 1084) (by decide +kernel)
theorem jw_in_S : (.initialized "java/lang/String") ∈ qBIG := q_w_in (p := 1004) (by decide +kernel)
theorem jw_lk_K : (.methodLink "java/lang/StringLatin1" 9 yJ0_checkIndex_df160) ∈ qBIG := q_w_in (p := 1081) (by decide +kernel)
theorem jw_code_L : (.code yJ1_charAt_3b067 cJ1_charAt_3b067 2 (some .char)) ∈ qBIG := q_w_in (p := 1080) (by decide +kernel)
theorem jw_st_L : (.static yJ1_charAt_3b067) ∈ qBIG := q_w_in (p := 1079) (by decide +kernel)
theorem jw_in_L : (.initialized "java/lang/StringLatin1") ∈ qBIG := q_w_in (p := 1005) (by decide +kernel)
theorem jw_lk_L : (.methodLink "java/lang/String" 495 yJ1_charAt_3b067) ∈ qBIG := q_w_in (p := 1078) (by decide +kernel)
theorem jw_code_T : (.code yJ0_isLatin1_aae02 cJ0_isLatin1_aae02 1 (some .boolean)) ∈ qBIG := q_w_in (p := 1077) (by decide +kernel)
theorem jw_im_T : (.instanceMethod yJ0_isLatin1_aae02) ∈ qBIG := q_w_in (p := 1075) (by decide +kernel)
theorem jw_se_T : (.selects "java/lang/String" yJ0_isLatin1_aae02 yJ0_isLatin1_aae02) ∈ qBIG := q_w_in (p := 1076) (by decide +kernel)
theorem jw_lk_T : (.methodLink "java/lang/String" 492 yJ0_isLatin1_aae02) ∈ qBIG := q_w_in (p := 1074) (by decide +kernel)
theorem jw_code_O : (.code yJ0_coder_7d493 cJ0_coder_7d493 1 (some .byte)) ∈ qBIG := q_w_in (p := 1067) (by decide +kernel)
theorem jw_im_O : (.instanceMethod yJ0_coder_7d493) ∈ qBIG := q_w_in (p := 1065) (by decide +kernel)
theorem jw_se_O : (.selects "java/lang/String" yJ0_coder_7d493 yJ0_coder_7d493) ∈ qBIG := q_w_in (p := 1066) (by decide +kernel)
theorem jw_lk_O : (.methodLink "java/lang/String" 335 yJ0_coder_7d493) ∈ qBIG := q_w_in (p := 1064) (by decide +kernel)
theorem jw_fl_C : (.fieldLink "java/lang/String" 38 "java/lang/String" "COMPACT_STRINGS" "Z") ∈ qBIG := q_w_in (p := 1068) (by decide +kernel)
theorem jw_fl_V : (.fieldLink "java/lang/String" 9 "java/lang/String" "value" "[B") ∈ qBIG := q_w_in (p := 5156) (by decide +kernel)
theorem jw_fl_R : (.fieldLink "java/lang/String" 15 "java/lang/String" "coder" "B") ∈ qBIG := q_w_in (p := 5157) (by decide +kernel)
theorem jw_code_N : (.code yJ0_length_8abf5 cJ0_length_8abf5 1 (some .int)) ∈ qBIG := q_w_in (p := 1063) (by decide +kernel)
theorem jw_im_N : (.instanceMethod yJ0_length_8abf5) ∈ qBIG := q_w_in (p := 1061) (by decide +kernel)
theorem jw_se_N : (.selects "java/lang/String" yJ0_length_8abf5 yJ0_length_8abf5) ∈ qBIG := q_w_in (p := 1062) (by decide +kernel)
theorem jw_code_C : (.code yJ0_charAt_5068e cJ0_charAt_5068e 2 (some .char)) ∈ qBIG := q_w_in (p := 1073) (by decide +kernel)
theorem jw_im_C : (.instanceMethod yJ0_charAt_5068e) ∈ qBIG := q_w_in (p := 1071) (by decide +kernel)
theorem jw_se_C : (.selects "java/lang/String" yJ0_charAt_5068e yJ0_charAt_5068e) ∈ qBIG := q_w_in (p := 1072) (by decide +kernel)
theorem j_chk (l : Launch) {sa sv i n : Nat} (hi : i < n) (hn : n < 2 ^ 31) : jMet l yJ0_checkIndex_df160 cJ0_checkIndex_df160 2 none 2 [.int (nI i), .int (nI n)] sa sv none := by
  refine j_of l (by decide +kernel) (Nat.le_refl 2) rfl ?_
  intro p e R s m args below meth c Z hf hl hx hb hml hown hts hJ ls hl2 kk
  refine lv_iload_n hx hb dK_0 rfl (lv_at hl2 0 rfl) ?_
  refine lv_iload_n hx hb dK_1 rfl (lv_at hl2 1 rfl) ?_
  have go : ∀ f : Value, (f = .null ∨ ∃ t, f = .ref t) → va_Z "jdk/internal/util/Preconditions" "SIOOBE_FORMATTER" "Ljava/util/function/BiFunction;" f (fun _ => False) s s.heap → W p l e R s m args below meth c s.heap [] 0 0 Z (F0 m 2 ls [.int (nI n), .int (nI i)]) := fun f hf1 hZ => by
    refine va_gets hx hb hZ va_S.rf hown (hts _ jw_fl_S) (fun _ h => h) dK_2 ?_
    refine j_after (va_runS (As := [.int (nI i), .int (nI n), f]) (rest := []) ⟨hx, hb, hml, hown, hts⟩ (j_pre (sa := sa) (sv := sv) l hf1 hi hn) ⟨callB_of 3 hts (j_good jw_code_P) rfl rfl rfl (hts _ jw_in_P) (hts _ jw_lk_P) ⟨by decide, by decide, by decide +kernel⟩ ⟨by rw [hf]; decide, by rw [hl]; decide⟩, hts _ jw_st_P⟩ ⟨j_blind, fun U hU hW => ⟨rfl, by show qJF sa sv U U.heap; rw [hU]; exact hJ.moved hW.alike⟩⟩ rfl rfl hl2.1 rfl (by show 2 * 0 + 0 ≤ 8; decide) dK_5 ⟨Nat.zero_le _, Nat.zero_le _⟩) ?_
    refine lv_pop hx hb dK_8 rfl ?_
    exact kk ls 9 dK_9
  rcases hJ.2.2 with h | ⟨t, h⟩
  · exact go _ (Or.inl rfl) h
  · exact go _ (Or.inr ⟨t, rfl⟩) h
theorem j_ch : ∀ i, i < 82 → ((jB.getD i 0 &&& nI 255).toUInt32 % 65536).toInt32 = nI (q_txt.getD i 0) ∧ narrow .char (.int (nI (q_txt.getD i 0))) = .int (nI (q_txt.getD i 0)) := by decide +kernel
theorem j_lat (l : Launch) {sa sv i : Nat} (hi : i < 82) : jMet l yJ1_charAt_3b067 cJ1_charAt_3b067 2 (some .char) 3 [.ref sv, .int (nI i)] sa sv (some (.int (nI (q_txt.getD i 0)))) := by
  refine j_of l (by decide +kernel) (Nat.le_refl 2) ⟨.char, rfl, (j_ch i hi).2⟩ ?_
  intro p e R s m args below meth c Z hf hl hx hb hml hown hts hJ ls hl2 kk
  have hT : va_T .byte sv 82 (fun j => .int (jB.getD j 0)) (fun _ => False) s s.heap := (hJ.1.1 0 (by omega)).2.2.2
  refine lv_iload_n hx hb dL_0 rfl (lv_at hl2 1 rfl) ?_
  refine lv_aload_n hx hb dL_1 rfl (lv_at hl2 0 rfl) ?_
  refine va_tlen hx hb hT va_S.rf (v := nI 82) rfl dL_2 ?_
  refine j_after (va_runS (As := [.int (nI i), .int (nI 82)]) (rest := []) ⟨hx, hb, hml, hown, hts⟩ (j_chk (sa := sa) (sv := sv) l hi (by decide)) ⟨callB_of 2 hts (j_good jw_code_K) rfl rfl rfl (hts _ jw_in_S) (hts _ jw_lk_K) ⟨by decide, by decide, by decide +kernel⟩ ⟨by rw [hf]; decide, by rw [hl]; decide⟩, hts _ jw_st_K⟩ ⟨j_blind, fun U hU hW => ⟨rfl, by show qJF sa sv U U.heap; rw [hU]; exact hJ.moved hW.alike⟩⟩ rfl rfl hl2.1 rfl (by show 2 * 0 + 0 ≤ 8; decide) dL_3 ⟨Nat.zero_le _, Nat.zero_le _⟩) ?_
  refine lv_aload_n hx hb dL_6 rfl (lv_at hl2 0 rfl) ?_
  refine lv_iload_n hx hb dL_7 rfl (lv_at hl2 1 rfl) ?_
  refine va_tb hx hb hT va_S.rf (vp_in_nI hi (by omega)) (v := .int (jB.getD i 0)) (by rw [nI_clamp (by omega)]) dL_8 ?_
  refine lv_sipush hx hb dL_9 (v := nI 255) (by decide) ?_
  refine lv_iand hx hb dL_12 ?_
  refine lv_i2c hx hb dL_13 (j_ch i hi).1 ?_
  exact kk ls 14 dL_14
theorem j_isl (l : Launch) {sa sv : Nat} : jMet l yJ0_isLatin1_aae02 cJ0_isLatin1_aae02 1 (some .boolean) 1 [.ref sa] sa sv (some (.int 1)) := by
  refine j_of l (by decide +kernel) (Nat.le_refl 1) ⟨.boolean, rfl, by decide +kernel⟩ ?_
  intro p e R s m args below meth c Z hf hl hx hb hml hown hts hJ ls hl2 kk
  refine va_gets hx hb hJ.2.1 va_S.rf hown (hts _ jw_fl_C) (fun _ h => h) dT_0 ?_
  refine lv_if_eq (tgt := 17) hx hb dT_3 (by decide) (fun h => absurd h (by decide)) (fun h => ?_)
  refine lv_aload_n hx hb dT_6 rfl (lv_at hl2 0 rfl) ?_
  refine vk_getf hx hb (hJ.1.1 0 (by omega)).2.1 va_S.rf hown (hts _ jw_fl_R) (fun _ h => h) dT_7 ?_
  refine lv_if_ne (tgt := 17) hx hb dT_10 (by decide) (fun h => absurd rfl h) (fun h => ?_)
  refine lv_iconst hx hb dT_13 (v := 1) (by decide) ?_
  refine lv_goto (tgt := 18) hx hb dT_14 (by decide) ?_
  exact kk ls 18 dT_18
theorem j_cod (l : Launch) {sa sv : Nat} : jMet l yJ0_coder_7d493 cJ0_coder_7d493 1 (some .byte) 1 [.ref sa] sa sv (some (.int 0)) := by
  refine j_of l (by decide +kernel) (Nat.le_refl 1) ⟨.byte, rfl, by decide +kernel⟩ ?_
  intro p e R s m args below meth c Z hf hl hx hb hml hown hts hJ ls hl2 kk
  refine va_gets hx hb hJ.2.1 va_S.rf hown (hts _ jw_fl_C) (fun _ h => h) dO_0 ?_
  refine lv_if_eq (tgt := 13) hx hb dO_3 (by decide) (fun h => absurd h (by decide)) (fun h => ?_)
  refine lv_aload_n hx hb dO_6 rfl (lv_at hl2 0 rfl) ?_
  refine vk_getf hx hb (hJ.1.1 0 (by omega)).2.1 va_S.rf hown (hts _ jw_fl_R) (fun _ h => h) dO_7 ?_
  refine lv_goto (tgt := 14) hx hb dO_10 (by decide) ?_
  exact kk ls 14 dO_14
theorem j_rcv {sa sv : Nat} {H : Heap} (hJ : qJF sa sv s H) : ∃ cellB : Cell, H[sa]? = some cellB ∧ cellB.vm.isStatics = false ∧ s.vm.findClass "java/lang/String" = some cellB.cls := by
  obtain ⟨cell, h1, h2, h3, -⟩ := (hJ.1.1 0 (by omega)).1
  exact ⟨cell, h1, h2, h3⟩
theorem j_len (l : Launch) {sa sv : Nat} : jMet l yJ0_length_8abf5 cJ0_length_8abf5 1 (some .int) 2 [.ref sa] sa sv (some (.int (nI 82))) := by
  refine j_of l (by decide +kernel) (Nat.le_refl 1) ⟨.int, rfl, vp_nar_int _⟩ ?_
  intro p e R s m args below meth c Z hf hl hx hb hml hown hts hJ ls hl2 kk
  have hT : va_T .byte sv 82 (fun j => .int (jB.getD j 0)) (fun _ => False) s s.heap := (hJ.1.1 0 (by omega)).2.2.2
  refine lv_aload_n hx hb dN_0 rfl (lv_at hl2 0 rfl) ?_
  refine vk_getf hx hb (hJ.1.1 0 (by omega)).2.2.1 va_S.rf hown (hts _ jw_fl_V) (fun _ h => h) dN_1 ?_
  refine va_tlen hx hb hT va_S.rf (v := nI 82) rfl dN_4 ?_
  refine lv_aload_n hx hb dN_5 rfl (lv_at hl2 0 rfl) ?_
  refine j_after (va_runV (As := []) (rest := [.int (nI 82)]) (b := sa) (C := "java/lang/String") ⟨hx, hb, hml, hown, hts⟩ (j_cod (sa := sa) (sv := sv) l) ⟨callB_of 0 hts (j_good jw_code_O) rfl rfl rfl (hts _ jw_in_S) (hts _ jw_lk_O) ⟨by decide, by decide, by decide +kernel⟩ ⟨by rw [hf]; decide, by rw [hl]; decide⟩, hts _ jw_im_O, hts _ jw_se_O⟩ ⟨j_blind, j_rcv hJ, fun U hU hW => ⟨rfl, by show qJF sa sv U U.heap; rw [hU]; exact hJ.moved hW.alike⟩⟩ rfl rfl hl2.1 rfl (by show 2 * 0 + 1 ≤ 8; decide) dN_6 ⟨Nat.zero_le _, Nat.zero_le _⟩) ?_
  refine lv_ishr hx hb dN_9 ?_
  exact kk ls 10 dN_10
theorem j_cha (l : Launch) {sa sv i : Nat} (hi : i < 82) : jMet l yJ0_charAt_5068e cJ0_charAt_5068e 2 (some .char) 4 [.ref sa, .int (nI i)] sa sv (some (.int (nI (q_txt.getD i 0)))) := by
  refine j_of l (by decide +kernel) (Nat.le_refl 2) ⟨.char, rfl, (j_ch i hi).2⟩ ?_
  intro p e R s m args below meth c Z hf hl hx hb hml hown hts hJ ls hl2 kk
  refine lv_aload_n hx hb dC_0 rfl (lv_at hl2 0 rfl) ?_
  refine j_after (va_runV (As := []) (rest := []) (b := sa) (C := "java/lang/String") ⟨hx, hb, hml, hown, hts⟩ (j_isl (sa := sa) (sv := sv) l) ⟨callB_of 0 hts (j_good jw_code_T) rfl rfl rfl (hts _ jw_in_S) (hts _ jw_lk_T) ⟨by decide, by decide, by decide +kernel⟩ ⟨by rw [hf]; decide, by rw [hl]; decide⟩, hts _ jw_im_T, hts _ jw_se_T⟩ ⟨j_blind, j_rcv hJ, fun U hU hW => ⟨rfl, by show qJF sa sv U U.heap; rw [hU]; exact hJ.moved hW.alike⟩⟩ rfl rfl hl2.1 rfl (by show 2 * 0 + 0 ≤ 8; decide) dC_1 ⟨Nat.zero_le _, Nat.zero_le _⟩) ?_
  refine lv_if_eq (tgt := 16) hx hb dC_4 (by decide) (fun h => absurd h (by decide)) (fun h => ?_)
  refine lv_aload_n hx hb dC_7 rfl (lv_at hl2 0 rfl) ?_
  refine vk_getf hx hb (hJ.1.1 0 (by omega)).2.2.1 va_S.rf hown (hts _ jw_fl_V) (fun _ h => h) dC_8 ?_
  refine lv_iload_n hx hb dC_11 rfl (lv_at hl2 1 rfl) ?_
  refine j_after (va_runS (As := [.ref sv, .int (nI i)]) (rest := []) ⟨hx, hb, hml, hown, hts⟩ (j_lat (sa := sa) (sv := sv) l hi) ⟨callB_of 2 hts (j_good jw_code_L) rfl rfl rfl (hts _ jw_in_L) (hts _ jw_lk_L) ⟨by decide, by decide, by decide +kernel⟩ ⟨by rw [hf]; decide, by rw [hl]; decide⟩, hts _ jw_st_L⟩ ⟨j_blind, fun U hU hW => ⟨rfl, by show qJF sa sv U U.heap; rw [hU]; exact hJ.moved hW.alike⟩⟩ rfl rfl hl2.1 rfl (by show 2 * 0 + 0 ≤ 8; decide) dC_12 ⟨Nat.zero_le _, Nat.zero_le _⟩) ?_
  exact kk ls 15 dC_15
end QSTR
