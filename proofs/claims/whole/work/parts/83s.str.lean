/-! ===== THE STRING CONSTANT: ldc_w, length, charAt ===== -/
section QSTR
variable {p : Program} {l : Launch} {e : Env} {R : Room} {s : State} {m : MethodId} {args : Array Value} {below : List Frame} {meth : Method} {c : Code} {Z : State → Prop} {H : Heap} {locs : List Loc} {cn nn : Nat}
theorem q_ldcS {cc : ByteArray} {pc : Nat} {ls : Array Slot} {rest : List Value} (hexec : p.tables.exec = Jvm.exec) (hb : c.code = cc) {own tx : String} {index q : Nat} (hown : s.vm.findClass own = some m.cls) (hZ : vk_R own index tx q s) (hdg : decode cc pc = .ok (.ldc_w index, 3))
    (k : W p l e R s m args below meth c H locs cn nn Z (F0 m (pc + 3) ls (.ref q :: rest))) : W p l e R s m args below meth c H locs cn nn Z (F0 m pc ls rest) := by
  intro T hT X
  obtain ⟨t, a1, b1⟩ := k T hT X
  exact ⟨t, X.ldcStringW hexec hown (text := tx) (a := q) hZ.1 hZ.2 (g := F0 m pc ls rest) rfl (by rw [hb]; exact hdg) t a1, b1⟩
/-- a call of the JDK's that writes nothing -/
def jMet (l : Launch) (y : MethodName) (cc : ByteArray) (maxL : Nat) (ret : Option FieldType) (d : Nat) (as : List Value) (sa sv : Nat) (v : Option Value) : Prop := Met l y (.code y cc maxL ret :: qBIG) { frames := d, cells := 0, slots := 0, locals := 40 * d } (va_Pc as (fun U => qJF sa sv U U.heap)) (fun _ st oc t => oc = .returned v ∧ t.heap = st.heap) 0 0 (fun _ => False)
theorem j_good {y : MethodName} {cc : ByteArray} {maxL : Nat} {ret : Option FieldType} (h : Cond.code y cc maxL ret ∈ qBIG) : GoodIn qBIG (.code y cc maxL ret :: qBIG) := by
  intro w hw
  rcases List.mem_cons.mp hw with rfl | hw
  · exact ⟨h, good_of_word (qBIG_good _ h)⟩
  · exact ⟨hw, good_of_word (qBIG_good _ hw)⟩
theorem j_after {pc : Nat} {ls : Array Slot} {rest st0 : List Value} {v : Option Value} {av : Array Value} (hr : va_Run p l e R s m args below meth c H locs cn nn 0 0 (F0 m pc ls st0) rest ((fun (_ : Array Value) (st : State) (oc : Outcome) (t : State) => oc = .returned v ∧ t.heap = st.heap) av) (fun _ => False))
    (kk : W p l e R s m args below meth c H locs cn nn Z (F0 m (pc + 3) ls (v.toList ++ rest))) : W p l e R s m args below meth c H locs cn nn Z (F0 m pc ls st0) := by
  intro T hT Xs
  obtain ⟨w, st₀, t, T', Lx, h0, X', hLx, e1, e2, ⟨hv, hh⟩, stp⟩ := hr T hT Xs
  have hv : w = v := Outcome.returned.inj hv
  subst hv
  have hL : Lx = [] := List.eq_nil_iff_forall_not_mem.mpr fun q hq => hLx q hq
  subst hL
  rw [List.append_nil] at X'
  obtain ⟨t2, a1, b1⟩ := kk T' (by rw [e1, hh, h0]) X'
  exact ⟨t2, stp t2 a1, b1⟩
theorem j_blind {as : List Value} {sa sv : Nat} : FrameBlind (va_Pc as (fun U => qJF sa sv U U.heap)) := fun a U g mk q => ⟨q.1, qJF.moved (u := U) (U := U.calling g mk a) (State.WarmedH.refl U).alike q.2⟩
/-- a body of the JDK's, walked at its entry's heap -/
theorem j_of (l : Launch) {y : MethodName} {cc : ByteArray} {maxL d : Nat} {ret : Option FieldType} {as : List Value} {sa sv : Nat} {v : Option Value} (hy : plainName y.cls = true) (hlen : (lg_sl as).length ≤ maxL) (hret : match v with | none => ret = none | some (.int z) => ∃ ty, ret = some ty ∧ narrow ty (.int z) = .int z | _ => False)
    (walk : ∀ (p : Program) (e : Env) (R : Room) (s : State) (m : MethodId) (args : Array Value) (below : List Frame) (meth : Method) (c : Code) (Z : State → Prop), R.frames = d → R.locals = 40 * d → p.tables.exec = Jvm.exec → c.code = cc → c.maxLocals = maxL → s.vm.findClass y.cls = some m.cls → (∀ w ∈ qBIG, w.before args s = true) → qJF sa sv s s.heap →
      ∀ ls : Array Slot, lv_has ls maxL (lv_args 0 as) → (∀ (ls' : Array Slot) (pc : Nat), (match v with | none => decode cc pc = .ok (.return_, 1) | some _ => decode cc pc = .ok (.ireturn, 1)) → W p l e R s m args below meth c s.heap [] 0 0 Z (F0 m pc ls' v.toList)) → W p l e R s m args below meth c s.heap [] 0 0 Z (F0 m 0 ls [])) : jMet l y cc maxL ret d as sa sv v := by
  refine Met.ofW (cc := cc) (maxL := maxL) (ret := ret) hy rfl ?_
  intro p e s m args below meth c s₁ B hml hv
  obtain ⟨rfl, hJ⟩ := hv
  have hts0 := atoms_spec (ws := .code y cc maxL ret :: qBIG) B.pre
  have hts : ∀ w ∈ qBIG, w.before as.toArray s = true := fun w hw => hts0 w (List.mem_cons_of_mem _ hw)
  have hown : s.vm.findClass y.cls = some m.cls := findClass_of_methodNamed B.named
  have hr := B.returns
  have hlocks := B.notSynchronized
  rw [lg_entry_eq]
  refine walk p e _ s m as.toArray below meth c _ rfl rfl B.exec B.bytes hml hown hts hJ _ (lv_entry as hlen) (fun ls' pc hd => ?_)
  match v, hret, hd with
  | none, hret, hd => exact W.vret B.exec B.bytes (hr.trans hret) (fun t ht hW => ⟨rfl, ht⟩) (fun _ h => nomatch h) hd
  | some (.int z), hret, hd =>
    obtain ⟨ty, h8, h9⟩ := hret
    exact W.zret B.exec B.bytes (hr.trans h8) h9 (fun t ht hW => ⟨rfl, ht⟩) (fun _ h => nomatch h) hd
theorem dP_0 : decode cJ3_checkIndex_8e157 0 = .ok (.iload_n 0, 1) := by decide +kernel
theorem dP_1 : decode cJ3_checkIndex_8e157 1 = .ok (.ifCond .lt 8, 3) := by decide +kernel
theorem dP_4 : decode cJ3_checkIndex_8e157 4 = .ok (.iload_n 0, 1) := by decide +kernel
theorem dP_5 : decode cJ3_checkIndex_8e157 5 = .ok (.iload_n 1, 1) := by decide +kernel
theorem dP_6 : decode cJ3_checkIndex_8e157 6 = .ok (.if_icmp .lt 10, 3) := by decide +kernel
theorem dP_16 : decode cJ3_checkIndex_8e157 16 = .ok (.iload_n 0, 1) := by decide +kernel
theorem dP_17 : decode cJ3_checkIndex_8e157 17 = .ok (.ireturn, 1) := by decide +kernel
theorem j_pre (l : Launch) {sa sv i n : Nat} {f : Value} (hf : f = .null ∨ ∃ t, f = .ref t) (hi : i < n) (hn : n < 2 ^ 31) : jMet l yJ3_checkIndex_8e157 cJ3_checkIndex_8e157 3 (some .int) 1 [.int (nI i), .int (nI n), f] sa sv (some (.int (nI i))) := by
  refine j_of l (by decide +kernel) ?_ ⟨.int, rfl, vp_nar_int _⟩ ?_
  · rcases hf with rfl | ⟨t, rfl⟩ <;> exact Nat.le_refl 3
  · intro p e R s m args below meth c Z hf hl hx hb hml hown hts hJ ls hl kk
    refine lv_iload_n hx hb dP_0 rfl (lv_at hl 0 rfl) ?_
    refine lv_if_lt (tgt := 9) hx hb dP_1 (by decide) (fun h => absurd h (nI_pos (by omega))) (fun h => ?_)
    refine lv_iload_n hx hb dP_4 rfl (lv_at hl 0 rfl) ?_
    refine lv_iload_n hx hb dP_5 rfl (lv_at hl 1 rfl) ?_
    refine lv_icmp_lt (tgt := 16) hx hb dP_6 (by decide) (fun h => ?_) (fun h => absurd (nI_lt hi hn) h)
    refine lv_iload_n hx hb dP_16 rfl (lv_at hl 0 rfl) ?_
    exact kk ls 17 dP_17
end QSTR
