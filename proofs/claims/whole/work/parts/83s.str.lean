/-! ===== THE STRING CONSTANT: ldc_w, length, charAt ===== -/
section QSTR
variable {p : Program} {l : Launch} {e : Env} {R : Room} {s : State} {m : MethodId} {args : Array Value} {below : List Frame} {meth : Method} {c : Code} {Z : State → Prop} {H : Heap} {locs : List Loc} {cn nn : Nat}
theorem q_ldcS {cc : ByteArray} {pc : Nat} {ls : Array Slot} {rest : List Value} (hexec : p.tables.exec = Jvm.exec) (hb : c.code = cc) {own tx : String} {index q : Nat} (hown : s.vm.findClass own = some m.cls) (hZ : vk_R own index tx q s) (hdg : decode cc pc = .ok (.ldc_w index, 3))
    (k : W p l e R s m args below meth c H locs cn nn Z (F0 m (pc + 3) ls (.ref q :: rest))) : W p l e R s m args below meth c H locs cn nn Z (F0 m pc ls rest) := by
  intro T hT X
  obtain ⟨t, a1, b1⟩ := k T hT X
  exact ⟨t, X.ldcStringW hexec hown (text := tx) (a := q) hZ.1 hZ.2 (g := F0 m pc ls rest) rfl (by rw [hb]; exact hdg) t a1, b1⟩
/-- a call of the JDK's that writes nothing -/
def jMet (l : Launch) (y : MethodName) (cc : ByteArray) (maxL : Nat) (ret : Option FieldType) (d : Nat) (as : List Value) (sa sv : Nat) (v : Option Value) : Prop := Met l y (.code y cc maxL ret :: qBIG) { frames := d, cells := 0, slots := 0, locals := 40 * d } (va_Pc as (fun U => qJF sa sv U U.heap)) (fun _ st oc t => oc = .returned v ∧ t.heap = st.heap) 0 0 (fun _ => False)
theorem j_good {y : MethodName} {cc : ByteArray} {maxL : Nat} {ret : Option FieldType} (h : Cond.code y cc maxL ret ∈ qBIG) : GoodIn qBIG (.code y cc maxL ret :: qBIG) := by
  intro w hw
  rcases List.mem_cons.mp hw with rfl | hw
  · exact ⟨h, good_of_word (qBIG_good _ h)⟩
  · exact ⟨hw, good_of_word (qBIG_good _ hw)⟩
theorem j_after {pc : Nat} {ls : Array Slot} {rest st0 : List Value} {v : Option Value} {av : Array Value} (hr : va_Run p l e R s m args below meth c H locs cn nn 0 0 (F0 m pc ls st0) rest ((fun (_ : Array Value) (st : State) (oc : Outcome) (t : State) => oc = .returned v ∧ t.heap = st.heap) av) (fun _ => False))
    (kk : W p l e R s m args below meth c H locs cn nn Z (F0 m (pc + 3) ls (v.toList ++ rest))) : W p l e R s m args below meth c H locs cn nn Z (F0 m pc ls st0) := by
  intro T hT Xs
  obtain ⟨w, st₀, t, T', Lx, h0, X', hLx, e1, e2, ⟨hv, hh⟩, stp⟩ := hr T hT Xs
  have hv : w = v := Outcome.returned.inj hv
  subst hv
  have hL : Lx = [] := List.eq_nil_iff_forall_not_mem.mpr fun q hq => hLx q hq
  subst hL
  rw [List.append_nil] at X'
  obtain ⟨t2, a1, b1⟩ := kk T' (by rw [e1, hh, h0]) X'
  exact ⟨t2, stp t2 a1, b1⟩
theorem j_blind {as : List Value} {sa sv : Nat} : FrameBlind (va_Pc as (fun U => qJF sa sv U U.heap)) := fun a U g mk q => ⟨q.1, qJF.moved (u := U) (U := U.calling g mk a) (State.WarmedH.refl U).alike q.2⟩
/-- a body of the JDK's, walked at its entry's heap -/
theorem j_of (l : Launch) {y : MethodName} {cc : ByteArray} {maxL d : Nat} {ret : Option FieldType} {as : List Value} {sa sv : Nat} {v : Option Value} (hy : plainName y.cls = true) (hlen : (lg_sl as).length ≤ maxL)
    (walk : ∀ (p : Program) (e : Env) (s : State) (m : MethodId) (args : Array Value) (below : List Frame) (meth : Method) (c : Code) (Z : State → Prop), p.tables.exec = Jvm.exec → c.code = cc → c.maxLocals = maxL → s.vm.findClass y.cls = some m.cls → (∀ w ∈ qBIG, w.before args s = true) → qJF sa sv s s.heap → meth.sig.returnType = ret →
      ∀ ls : Array Slot, lv_has ls maxL (lv_args 0 as) → (∀ R : Room, R.frames = d → R.locals = 40 * d → (∀ (ls' : Array Slot) (pc : Nat), (match v with | none => decode cc pc = .ok (.return_, 1) | some _ => decode cc pc = .ok (.ireturn, 1)) → W p l e R s m args below meth c s.heap [] 0 0 Z (F0 m pc ls' v.toList)) → W p l e R s m args below meth c s.heap [] 0 0 Z (F0 m 0 ls []))) : jMet l y cc maxL ret d as sa sv v := by
  refine Met.ofW (cc := cc) (maxL := maxL) (ret := ret) hy rfl ?_
  intro p e s m args below meth c s₁ B hml hv
  obtain ⟨rfl, hJ⟩ := hv
  have hts0 := atoms_spec (ws := .code y cc maxL ret :: qBIG) B.pre
  have hts : ∀ w ∈ qBIG, w.before as.toArray s = true := fun w hw => hts0 w (List.mem_cons_of_mem _ hw)
  have hown : s.vm.findClass y.cls = some m.cls := findClass_of_methodNamed B.named
  have hr := B.returns
  have hlocks := B.notSynchronized
  rw [lg_entry_eq]
  refine walk p e s m as.toArray below meth c _ B.exec B.bytes hml hown hts hJ hr _ (lv_entry as hlen) _ rfl rfl (fun ls' pc hd => ?_)
  sorry
end QSTR
