/-! ===== SOUNDNESS: what the abstract machine does, the machine does ===== -/
def q_fv (ci k : Nat) (x : Int32) (r : Option Nat) : Value := if q_fk (q_cty ci k) = 2 then va_rf r else .int x
def q_aT (k : Nat) : FieldType := match k with
  | 2 => .int
  | 3 => .byte
  | 4 => .object "NailedYears$Nail"
  | 5 => .object "NailedYears$Wall"
  | _ => .array .int
/-- the fixed cells, the heap at the law's entry, where the String constant lies -/
abbrev qFx : Type := (Nat → Cell × Bool) × Heap × Nat
def q_at (D : va_G) (dA : Nat → ClassId) (fx : qFx) (M : qM) (a : Nat) (H : Heap) : Prop :=
  ((qS M a).1 = 1 → (qS M a).2 < 9 ∧ t_OB a (D.1 (qS M a).2) (q_cN (qS M a).2) (D.2 (qS M a).2) H (fun k => q_fv (qS M a).2 k (qI M a k) (qR M a k))) ∧
  ((qS M a).1 = 2 ∨ (qS M a).1 = 3 → H[a]? = some (vp_cell (dA (qS M a).1) ((qS M a).2, .inl (qI M a)))) ∧
  ((qS M a).1 = 4 ∨ (qS M a).1 = 5 ∨ (qS M a).1 = 6 → H[a]? = some (vp_cell (dA (qS M a).1) ((qS M a).2, .inr (.inr (.inr (.inr (qR M a))))))) ∧
  (7 ≤ (qS M a).1 → H[a]? = some (fx.1 a).1 ∧ ((qS M a).1 = 7 → (fx.1 a).2 = true ∧ (fx.1 a).1.slots.size = (qS M a).2 ∧ ∀ j, j < (qS M a).2 → (fx.1 a).1.slots[j]? = some (.int (qI M a j))))
theorem q_at.kept {D : va_G} {dA : Nat → ClassId} {fx : qFx} {M M' : qM} {a : Nat} {H H' : Heap} (h : q_at D dA fx M a H) (e1 : qS M' a = qS M a) (e2 : qI M' a = qI M a) (e3 : qR M' a = qR M a) (hq : H'[a]? = H[a]?) : q_at D dA fx M' a H' := by
  unfold q_at at h ⊢
  rw [e1, e2, e3, hq]
  exact ⟨fun h1 => ⟨(h.1 h1).1, (h.1 h1).2.kept hq⟩, h.2.1, h.2.2.1, h.2.2.2⟩
/-- what was there at the law's entry is as it was, but no cell of ours -/
def qRX (fx : qFx) (M : qM) (H : Heap) : Prop := (∀ a, a < fx.2.1.size → 7 ≤ (qS M a).1 ∧ H[a]? = fx.2.1[a]?) ∧ qT M = fx.2.2
def Rep (D : va_G) (dA : Nat → ClassId) (fx : qFx) (M : qM) (H : Heap) : Prop := H.size = qZ M ∧ (∀ a, q_at D dA fx M a H) ∧ qRX fx M H
def jTX : String := "w4,5;n0,0,6,1;n1,1,5,2;n2,6,4,12;n3,7,2,16;n4,12,7,33;n0,13,3,8;d0,2;d1,3;d2,4;b5;"
def jB : List Int32 := q_txt.map nI
/-- the String constant and what the JDK's members read beside it -/
def qJF (sa sv : Nat) (U : State) (H : Heap) : Prop := vk_S 1 [82] [jB] (fun _ => sa) (fun _ => sv) (fun _ => False) U H ∧ va_Z "java/lang/String" "COMPACT_STRINGS" "Z" (.int 1) (fun _ => False) U H ∧ va_Zq "jdk/internal/util/Preconditions" "SIOOBE_FORMATTER" "Ljava/util/function/BiFunction;" (fun _ => False) U H
def qJ (fx : qFx) (U : State) : Prop := vk_R "NailedYears" 275 jTX fx.2.2 U ∧ ∃ sv, qJF fx.2.2 sv U fx.2.1
theorem qJF.moved {sa sv : Nat} {u U : State} {H : Heap} (hvm : u.vm.Alike U.vm) (h : qJF sa sv u H) : qJF sa sv U H := ⟨h.1.moved hvm, h.2.1.moved hvm, h.2.2.moved hvm⟩
theorem qJF.kept {sa sv : Nat} {U : State} {H H1 : Heap} (h : qJF sa sv U H) (hq : ∀ a : Nat, a < H.size → H1[a]? = H[a]?) : qJF sa sv U H1 := ⟨h.1.kept (fun a ha _ => hq a ha), h.2.1.kept (fun a ha _ => hq a ha), h.2.2.kept (fun a ha _ => hq a ha)⟩
def q_AOA (U : State) : Prop := (Cond.arrayOver (.array .int)).before #[] U = true
theorem q_over_spec {args : Array Value} {first s : State} {o : Option Outcome} {idx : List Nat} {t : FieldType} (h : (Cond.arrayOver (.array t)).holds args first o s idx = true) :
    ∃ comp c k, s.vm.findClass (FieldType.array t).toString = some comp ∧ (s.vm.classes.findIdx? fun (x : Class) => match x.kind with | .array component _ => component == comp | _ => false) = some c ∧ s.vm.classes[c]? = some k ∧ k.kind = .array comp (.array t) ∧ s.vm.findClass ("[" ++ (FieldType.array t).toString) = some c := by
  simp only [Cond.holds, Cond.value, beq_iff_eq] at h
  cases hc : s.vm.findClass (FieldType.array t).toString with
  | none => simp [hc] at h
  | some comp =>
    simp only [hc, Option.bind_some, Option.bind_eq_some_iff, Option.map_eq_some_iff] at h
    obtain ⟨c, hi, k, hk, hb⟩ := h
    obtain ⟨hlt, hp, -⟩ := Array.findIdx?_eq_some_iff_getElem.mp hi
    have hkk : s.vm.classes[c] = k := (Array.getElem?_eq_some_iff.mp hk).2
    rw [hkk] at hp
    cases hkind : k.kind with
    | array component ty =>
      rw [hkind] at hb hp
      simp at hb hp
      exact ⟨comp, c, k, rfl, hi, hk, by rw [hkind, hp, hb.1], hb.2⟩
    | _ => rw [hkind] at hb; simp at hb
theorem q_AOA.moved {u U : State} (hvm : u.vm.Alike U.vm) (h : q_AOA u) : q_AOA U := by
  obtain ⟨comp, c, k, h1, h2, h3, h4, h5⟩ := q_over_spec h
  obtain ⟨k', hk', he⟩ := hvm.2.2 _ _ h3
  have hi : (U.vm.classes.findIdx? fun (x : Class) => match x.kind with | .array component _ => component == comp | _ => false) = some c := by
    refine (va_idx_bare U.vm comp).symm.trans ?_
    first | rw [hvm.bare_eq] | rw [← hvm.bare_eq]
    exact (va_idx_bare u.vm comp).trans h2
  have hkind : k'.kind = .array comp (.array .int) := by rw [he]; exact h4
  have f1 : U.vm.findClass (FieldType.array .int).toString = some comp := by rw [hvm.findClass]; exact h1
  have f2 : U.vm.findClass ("[" ++ (FieldType.array .int).toString) = some c := by rw [hvm.findClass]; exact h5
  unfold q_AOA Cond.before Cond.holds
  simp only [Cond.value]
  rw [f1, Option.bind_some]
  refine (congrArg (fun o : Option Nat => (o.bind (fun c => (U.vm.classes[c]?).map fun (k : Class) => match k.kind with | .array _ ty => decide (ty = FieldType.array .int) && decide (U.vm.findClass ("[" ++ (FieldType.array .int).toString) = some c) | _ => false) == some true)) hi).trans ?_
  simp [hk', hkind, f2]
def q_tys (dA : Nat → ClassId) : List (ClassId × FieldType) := [(dA 2, .int), (dA 3, .byte), (dA 4, .object "NailedYears$Nail"), (dA 5, .object "NailedYears$Wall"), (dA 6, .array .int)]
theorem q_tys_at (dA : Nat → ClassId) : ∀ k, 2 ≤ k → k ≤ 6 → (q_tys dA)[k - 2]? = some (dA k, q_aT k) := by
  intro k h1 h2
  rcases (show k = 2 ∨ k = 3 ∨ k = 4 ∨ k = 5 ∨ k = 6 by omega) with rfl | rfl | rfl | rfl | rfl <;> rfl
def qK (D : va_G) (dA : Nat → ClassId) (fx : qFx) (U : State) : Prop := va_K D vwCl (q_tys dA) U ∧ va_AO "NailedYears$Nail" U ∧ va_AO "NailedYears$Wall" U ∧ q_AOA U ∧ (∀ w ∈ qNST, va_Nw w U) ∧ (∀ a, (fx.1 a).2 = true → U.isArrayOf (fx.1 a).1 .int ∧ (fx.1 a).1.vm ≠ .unknown) ∧ qJ fx U
def q_lv (L : List Value) : List (Nat × Value) := (List.range L.length).filterMap fun (i : Nat) => match (L[i]? : Option Value) with
  | some Value.null => none
  | some v => some (i, v)
  | none => none
theorem q_lv_in {L : List Value} {i : Nat} {v : Value} (h : L[i]? = some v) (hv : v ≠ .null) : (i, v) ∈ q_lv L := by
  refine List.mem_filterMap.mpr ⟨i, List.mem_range.mpr (List.getElem?_eq_some_iff.mp h).1, ?_⟩
  rw [h]
  cases v <;> first | rfl | exact absurd rfl hv
theorem q_lv_of {L : List Value} {q : Nat × Value} (h : q ∈ q_lv L) : L[q.1]? = some q.2 ∧ q.2 ≠ .null := by
  obtain ⟨i, -, hi⟩ := List.mem_filterMap.mp h
  cases e : L[i]? with
  | none => rw [e] at hi; cases hi
  | some v =>
    rw [e] at hi
    cases v <;> first | (cases hi; done) | (cases hi; exact ⟨e, fun z => by cases z⟩)
def qLr (ls : Array Slot) (n : Nat) (L : List Value) : Prop := lv_has ls n (q_lv L) ∧ L.length = n ∧ ∀ v ∈ L, v.category = 1
theorem qLr.at {ls : Array Slot} {n : Nat} {L : List Value} (h : qLr ls n L) {i : Nat} {v : Value} (e : L[i]? = some v) (hv : v ≠ .null) : ls[i]? = some (.val v) := h.1.2.2 (i, v) (q_lv_in e hv)
theorem qLr.put {ls ls' : Array Slot} {n : Nat} {L : List Value} (h : qLr ls n L) {i : Nat} {v : Value} (hc : v.category = 1) (h' : lv_has ls' n ((i, v) :: (q_lv L).filter (fun q => !(q.1 == i) && !(q.1 + 1 == i && q.2.category == 2)))) : qLr ls' n (L.set i v) := by
  refine ⟨⟨h'.1, h'.2.1, fun q hq => ?_⟩, by rw [List.length_set]; exact h.2.1, fun w hw => ?_⟩
  · obtain ⟨j, w⟩ := q
    obtain ⟨e, hw⟩ := q_lv_of hq
    dsimp only at e hw ⊢
    by_cases hj : j = i
    · subst hj
      have : w = v := by
        have hl := (List.getElem?_eq_some_iff.mp e).1
        rw [List.length_set] at hl
        rw [List.getElem?_set_self hl] at e
        exact (Option.some.inj e).symm
      subst this
      exact h'.2.2 (j, w) List.mem_cons_self
    · rw [List.getElem?_set_ne (Ne.symm hj)] at e
      have hcw := h.2.2 w (List.mem_of_getElem? e)
      refine h'.2.2 (j, w) (List.mem_cons_of_mem _ (List.mem_filter.mpr ⟨q_lv_in e hw, ?_⟩))
      simp [hj, hcw]
  · rcases List.mem_or_eq_of_mem_set hw with h1 | h1
    · exact h.2.2 w h1
    · rw [h1]; exact hc
theorem qK.moved {D : va_G} {dA : Nat → ClassId} {fx : qFx} {s U : State} (hW : s.WarmedH U.vm) (h : qK D dA fx s) : qK D dA fx U := by
  obtain ⟨h1, h2, h3, h4, h5, h6, h8, sv, h9⟩ := h
  refine ⟨va_K.moved hW.alike h1, h2.moved hW.alike, h3.moved hW.alike, ?_, fun w hw => ?_, fun a ha => ⟨State.isArrayOf_alike hW.alike (h6 a ha).1, (h6 a ha).2⟩, vk_R.warm hW h8, sv, h9.moved hW.alike⟩
  · exact q_AOA.moved hW.alike h4
  · have h7 := h5 w hw
    have h8 : q_nst w = true := (List.mem_filter.mp hw).2
    cases w with
    | fieldLinkNest a i b n d h => exact va_Nw.warmF hW h7
    | methodLinkNest a i x h => exact va_Nw.warmM hW h7
    | _ => cases h8
theorem qK.same {D : va_G} {dA : Nat → ClassId} {fx : qFx} {s U : State} (hv : U.vm = s.vm) (h : qK D dA fx s) : qK D dA fx U := h.moved (by rw [hv]; exact State.WarmedH.refl s)
def qCx (p : Program) (R : Room) (s : State) (m : MethodId) (args : Array Value) (meth : Method) (c : Code) (dd id : Nat) (D : va_G) (dA : Nat → ClassId) (fx : qFx) (A : Nat → Prop) : Prop :=
  p.tables.exec = Jvm.exec ∧ c.code = (q_meth id).2.1 ∧ c.maxLocals = (q_meth id).2.2.1 ∧ s.vm.findClass (q_own id) = some m.cls ∧ (∀ w ∈ qBIG, w.before args s = true) ∧ qK D dA fx s ∧ (∀ q, s.heap.size ≤ q → A q) ∧ (dd + 5 ≤ R.frames ∧ 40 * (dd + 5) ≤ R.locals) ∧ ((q_meth id).2.2.2.2.2.2.1 ≤ R.cells ∧ (q_meth id).2.2.2.2.2.2.2 ≤ R.slots) ∧ ((q_meth id).1.name = "<init>" → meth.name = "<init>")
def qSt (s : State) (A : Nat → Prop) (H : Heap) (locs : List Loc) (ls : Array Slot) (id : Nat) (D : va_G) (dA : Nat → ClassId) (fx : qFx) (L : List Value) (M : qM) : Prop :=
  Rep D dA fx M H ∧ va_S A s.heap H locs ∧ (∀ q, 1 ≤ (qS M q).1 → (qS M q).1 ≤ 6 → A q) ∧ qLr ls (q_meth id).2.2.1 L
def qG (p : Program) (l : Launch) (e : Env) (R : Room) (s : State) (m : MethodId) (args : Array Value) (below : List Frame) (meth : Method) (c : Code) (Z : State → Prop) (id : Nat) (D : va_G) (dA : Nat → ClassId) (fx : qFx) (A : Nat → Prop) (x : qC) : Prop :=
  ∀ (H : Heap) (locs : List Loc) (ls : Array Slot), qSt s A H locs ls id D dA fx x.2.1 x.2.2.2.2.2 → W p l e R s m args below meth c H locs x.2.2.2.1 x.2.2.2.2.1 Z (F0 m x.1 ls x.2.2.1)
section QSND
variable {p : Program} {l : Launch} {e : Env} {R : Room} {s : State} {m : MethodId} {args : Array Value} {below : List Frame} {meth : Method} {c : Code} {Z : State → Prop} {id : Nat} {D : va_G} {dA : Nat → ClassId} {fx : qFx} {A : Nat → Prop}
variable {dd pc len a b w : Nat} {im : Int} {tl : List Nat} {L st : List Value} {cn nn : Nat} {M : qM} {y : qC} {mc ms : Nat}
theorem rep_I {H H' : Heap} {a k : Nat} {v : Int32} (hk : (qS M a).1 < 7) (h : Rep D dA fx M H) (hz : H'.size = H.size) (ho : ∀ q, q ≠ a → H'[q]? = H[q]?) (ha : q_at D dA fx (pI M a k v) a H') : Rep D dA fx (pI M a k v) H' := by
  refine ⟨hz.trans h.1, fun q => ?_, fun q hq => ⟨(h.2.2.1 q hq).1, (ho q (fun z => by have := (h.2.2.1 q hq).1; rw [z] at this; omega)).trans (h.2.2.1 q hq).2⟩, h.2.2.2⟩
  by_cases hq : q = a
  · rw [hq]; exact ha
  · refine (h.2.1 q).kept rfl ?_ rfl (ho q hq)
    funext j
    rw [qI_pI, if_neg (fun z => hq z.1)]
theorem rep_R {H H' : Heap} {a k : Nat} {v : Option Nat} (hk : (qS M a).1 < 7) (h : Rep D dA fx M H) (hz : H'.size = H.size) (ho : ∀ q, q ≠ a → H'[q]? = H[q]?) (ha : q_at D dA fx (pR M a k v) a H') : Rep D dA fx (pR M a k v) H' := by
  refine ⟨hz.trans h.1, fun q => ?_, fun q hq => ⟨(h.2.2.1 q hq).1, (ho q (fun z => by have := (h.2.2.1 q hq).1; rw [z] at this; omega)).trans (h.2.2.1 q hq).2⟩, h.2.2.2⟩
  by_cases hq : q = a
  · rw [hq]; exact ha
  · refine (h.2.1 q).kept rfl rfl ?_ (ho q hq)
    funext j
    rw [qR_pR, if_neg (fun z => hq z.1)]
theorem rx_lt {H : Heap} (h : Rep D dA fx M H) {q : Nat} (hq : q < fx.2.1.size) : q < H.size := by
  have h1 := (h.2.2.1 q hq).2
  rw [Array.getElem?_eq_getElem hq] at h1
  exact (Array.getElem?_eq_some_iff.mp h1).1
theorem rep_N {H H' : Heap} {kd : Nat × Nat} (h : Rep D dA fx M H) (hz : H'.size = H.size + 1) (ho : ∀ q, q < H.size → H'[q]? = H[q]?) (ha : q_at D dA fx (pN M kd) (qZ M) H') : Rep D dA fx (pN M kd) H' := by
  refine ⟨hz.trans (by rw [h.1]; rfl), fun q => ?_, fun q hq => ?_, h.2.2.2⟩
  by_cases hq : q = qZ M
  · rw [hq]; exact ha
  · rcases Nat.lt_or_ge q H.size with h1 | h1
    · exact (h.2.1 q).kept (by rw [qS_pN, if_neg hq]) (by funext j; rw [qI_pN, if_neg hq]) (by funext j; rw [qR_pN, if_neg hq]) (ho q h1)
    · refine (h.2.1 q).kept (by rw [qS_pN, if_neg hq]) (by funext j; rw [qI_pN, if_neg hq]) (by funext j; rw [qR_pN, if_neg hq]) ?_
      have h2 : q ≠ H.size := by rw [h.1]; exact hq
      rw [Array.getElem?_eq_none (by omega), Array.getElem?_eq_none (by omega)]
  · have hl := rx_lt h hq
    have hz := h.1
    exact ⟨by rw [qS_pN, if_neg (by omega)]; exact (h.2.2.1 q hq).1, (ho q hl).trans (h.2.2.1 q hq).2⟩
/-- reading a field -/
theorem s_get {oc : Nat} (X : qCx p R s m args meth c dd id D dA fx A) {H : Heap} (hH : Rep D dA fx M H) {r : Nat} (hr : qS M r = (1, b)) (hk : w < q_cN b) {locs : List Loc} {ls : Array Slot} (hf : q_fok (q_own id) (oc, a, b, w, im, tl) = true) (hd : decode (q_meth id).2.1 pc = .ok (.getfield a, 3))
    (kk : W p l e R s m args below meth c H locs cn nn Z (F0 m (pc + 3) ls (q_fv b w (qI M r w) (qR M r w) :: st))) : W p l e R s m args below meth c H locs cn nn Z (F0 m pc ls (.ref r :: st)) := by
  obtain ⟨hx, hb, hml, hown, hts, hK, -⟩ := X
  have h1 := (hH.2.1 r).1 (by rw [hr])
  rw [hr] at h1
  obtain ⟨h9, cell, q1, q2, q3, q4⟩ := h1
  dsimp only at h9 q2 q4
  obtain ⟨hS, hfc, kC, hkC, hkind⟩ := hK.1.1 b _ (q_cl b h9)
  dsimp only at hS hfc
  obtain ⟨cf, kf, fi, f, hi, hsl⟩ := hS w hk
  have hst := (u_facts hfc hkC (u_lays hts (q_cw b h9) hk) hi).1
  have hv : cell.slots[f.slot]? = some (q_fv b w (qI M r w) (qR M r w)) := by rw [hsl]; exact q4 w hk
  unfold q_fok at hf
  split at hf
  · have hw := hts _ (q_w_in hf)
    exact W.getf hx hb hown hw hi hst q1 (by rw [q3]; exact fun h => by cases h) hv rfl rfl hd kk
  · have hw := va_Nw.use (A := args) rfl (hK.2.2.2.2.1 _ (q_wn_in hf))
    exact va_Wgetf hx hb hown hw hi hst q1 (by rw [q3]; exact fun h => by cases h) hv rfl rfl hd kk
theorem va_apart' {ci : Nat} (h9 : ci < 9) (hts : ∀ w ∈ qBIG, w.before args s = true) (hK : va_K D vwCl (q_tys dA) s) : ∀ x y, x < q_cN ci → y < q_cN ci → x ≠ y → (D.2 ci) x ≠ (D.2 ci) y := va_apart (own := "") hts (q_cw ci h9) (q_cty ci) (fun k hk => q_ty ci k h9 hk) (q_nm ci h9) hK (q_cl ci h9)
/-- what is behind a write of an int field -/
theorem at_I {H' : Heap} {r : Nat} {x : Int32} {cell : Cell} (h9 : b < 9) (hw : w < q_cN b) (hfk : ¬ q_fk (q_cty b w) = 2) (hr : qS M r = (1, b)) (q2 : cell.cls = D.1 b) (q3 : cell.vm = .none) (q4 : ∀ k, k < q_cN b → cell.slots[D.2 b k]? = some (q_fv b k (qI M r k) (qR M r k))) (hap : ∀ x y, x < q_cN b → y < q_cN b → x ≠ y → (D.2 b) x ≠ (D.2 b) y) (e1 : H'[r]? = some (cell.setSlot (D.2 b w) (.int x))) : q_at D dA fx (pI M r w x) r H' := by
  refine ⟨fun _ => ?_, fun h => ?_, fun h => ?_, fun h => ?_⟩
  · rw [qS_pI, hr]
    refine ⟨h9, _, e1, q2, q3, fun k hk => ?_⟩
    rw [t_set q4 hap hw (.int x) k hk]
    dsimp only [updV]
    rw [qI_pI, qR_pI]
    by_cases hkw : k = w
    · subst hkw
      rw [if_pos rfl, if_pos ⟨rfl, rfl⟩]
      simp [q_fv, hfk]
    · rw [if_neg hkw, if_neg (fun z => hkw z.2)]
  · rw [qS_pI, hr] at h; dsimp only at h; omega
  · rw [qS_pI, hr] at h; dsimp only at h; omega
  · rw [qS_pI, hr] at h; dsimp only at h; omega
theorem at_R {H' : Heap} {r : Nat} {x : Option Nat} {cell : Cell} (h9 : b < 9) (hw : w < q_cN b) (hfk : q_fk (q_cty b w) = 2) (hr : qS M r = (1, b)) (q2 : cell.cls = D.1 b) (q3 : cell.vm = .none) (q4 : ∀ k, k < q_cN b → cell.slots[D.2 b k]? = some (q_fv b k (qI M r k) (qR M r k))) (hap : ∀ x y, x < q_cN b → y < q_cN b → x ≠ y → (D.2 b) x ≠ (D.2 b) y) (e1 : H'[r]? = some (cell.setSlot (D.2 b w) (va_rf x))) : q_at D dA fx (pR M r w x) r H' := by
  refine ⟨fun _ => ?_, fun h => ?_, fun h => ?_, fun h => ?_⟩
  · rw [qS_pR, hr]
    refine ⟨h9, _, e1, q2, q3, fun k hk => ?_⟩
    rw [t_set q4 hap hw (va_rf x) k hk]
    dsimp only [updV]
    rw [qR_pR, qI_pR]
    by_cases hkw : k = w
    · subst hkw
      rw [if_pos rfl, if_pos ⟨rfl, rfl⟩]
      simp [q_fv, hfk]
    · rw [if_neg hkw, if_neg (fun z => hkw z.2)]
  · rw [qS_pR, hr] at h; dsimp only at h; omega
  · rw [qS_pR, hr] at h; dsimp only at h; omega
  · rw [qS_pR, hr] at h; dsimp only at h; omega
theorem narrow_bool {x : Int32} (h : x = 0 ∨ x = 1) : narrow .boolean (.int x) = .int x := by rcases h with rfl | rfl <;> decide +kernel
/-- writing a field that is no reference -/
theorem s_put {oc : Nat} (X : qCx p R s m args meth c dd id D dA fx A) {H : Heap} {locs : List Loc} {ls : Array Slot} (S : qSt s A H locs ls id D dA fx L M) {r : Nat} {x : Int32} (hr : qS M r = (1, b)) (hw : w < q_cN b) (hfin : (q_cT b w).2.2.2 = false) (hfk : q_cty b w = .int ∨ (q_cty b w = .boolean ∧ (x = 0 ∨ x = 1))) (hf : q_fok (q_own id) (oc, a, b, w, im, tl) = true) (hd : decode (q_meth id).2.1 pc = .ok (.putfield a, 3))
    (kk : qG p l e R s m args below meth c Z id D dA fx A (pc + 3, L, st, cn, nn, pI M r w x)) : W p l e R s m args below meth c H locs cn nn Z (F0 m pc ls (.int x :: .ref r :: st)) := by
  obtain ⟨hH, hS, hA, hL⟩ := S
  obtain ⟨hx, hb, hml, hown, hts, hK, -⟩ := X
  have h1 := (hH.2.1 r).1 (by rw [hr])
  rw [hr] at h1
  obtain ⟨h9, cell, q1, q2, q3, q4⟩ := h1
  dsimp only at h9 q2 q4
  have hap := va_apart' h9 hts hK.1
  obtain ⟨hSl, hfc, kC, hkC, hkind⟩ := hK.1.1 b _ (q_cl b h9)
  dsimp only at hSl hfc
  obtain ⟨cf, kf, fi, f, hi, hsl⟩ := hSl w hw
  have hst := (u_facts hfc hkC (u_lays hts (q_cw b h9) hw) hi).1
  have hlay := hts _ (q_cw b h9 _ (u_in_lay hw))
  unfold u_lay at hlay
  rw [if_neg (by rw [hfin]; decide)] at hlay
  have hn : narrow (q_cty b w) (.int x) = .int x ∧ fits (q_cty b w) (.int x) = true ∧ ¬ q_fk (q_cty b w) = 2 := by
    rcases hfk with h | ⟨h, h0⟩
    · rw [h]; exact ⟨rfl, rfl, by decide⟩
    · rw [h]; exact ⟨narrow_bool h0, by rcases h0 with rfl | rfl <;> decide +kernel, by decide⟩
  have h6 := u_store hfc hkC hkind hlay hi (q_ty b w h9 hw) hn.1 hn.2.1
  have hAr : A r := hA r (by rw [hr]; exact Nat.le_refl _) (by rw [hr]; exact Nat.le_of_ble_eq_true rfl)
  have fin : ∀ H' : Heap, H'[r]? = some (cell.setSlot f.slot (.int x)) → H'.size = H.size → (∀ q, q ≠ r → H'[q]? = H[q]?) → W p l e R s m args below meth c H' (locs ++ [⟨r, f.slot⟩]) cn nn Z (F0 m (pc + 3) ls st) := by
    intro H' e1 e2 e3
    rw [hsl] at e1
    exact kk H' _ ls ⟨rep_I (by rw [hr]; omega) hH e2 e3 (at_I h9 hw hn.2.2 hr q2 q3 q4 hap e1), hS.put e2 e3 hAr, hA, hL⟩
  unfold q_fok at hf
  split at hf
  · exact W.putK hx hb (f := f) ⟨hown, hts _ (q_w_in hf), ⟨_, _, _, hi⟩, hst⟩ (by rw [q2]; exact h6) q1 q3 (by rw [hsl]; exact k2_hasslot (q4 w hw)) rfl rfl hd fin
  · exact va_WputK hx hb (f := f) hown (va_Nw.use (A := args) rfl (hK.2.2.2.2.1 _ (q_wn_in hf))) hi hst (by rw [q2]; exact h6) q1 q3 (by rw [hsl]; exact k2_hasslot (q4 w hw)) rfl rfl hd fin
theorem s_putF {oc q : Nat} (X : qCx p R s m args meth c dd id D dA fx A) {H : Heap} {locs : List Loc} {ls : Array Slot} (S : qSt s A H locs ls id D dA fx L M) {r : Nat} (hr : qS M r = (1, b)) (hw : w < q_cN b) (hfin : (q_cT b w).2.2.2 = true) (hfk : q_fk (q_cty b w) = 2) (him : im = 0) (hini : (q_meth id).1.name = "<init>") (hdecl : (q_cT b w).1 = q_own id) (hf : q_fok (q_own id) (oc, a, b, w, im, tl) = true) (hd : decode (q_meth id).2.1 pc = .ok (.putfield a, 3))
    (kk : qG p l e R s m args below meth c Z id D dA fx A (pc + 3, L, st, cn, nn, pR M r w (some q))) : W p l e R s m args below meth c H locs cn nn Z (F0 m pc ls (.ref q :: .ref r :: st)) := by
  obtain ⟨hH, hS, hA, hL⟩ := S
  obtain ⟨hx, hb, hml, hown, hts, hK, -, -, -, hin2⟩ := X
  have h1 := (hH.2.1 r).1 (by rw [hr])
  rw [hr] at h1
  obtain ⟨h9, cell, q1, q2, q3, q4⟩ := h1
  dsimp only at h9 q2 q4
  have hap := va_apart' h9 hts hK.1
  obtain ⟨hSl, hfc, kC, hkC, hkind⟩ := hK.1.1 b _ (q_cl b h9)
  dsimp only at hSl hfc
  obtain ⟨cf, kf, fi, f, hi, hsl⟩ := hSl w hw
  have hst := (u_facts hfc hkC (u_lays hts (q_cw b h9) hw) hi).1
  have hlay := hts _ (q_cw b h9 _ (u_in_lay hw))
  unfold u_lay at hlay
  rw [if_pos hfin] at hlay
  have hcf : m.cls = cf := by
    obtain ⟨_, _, c', _, _, _, -, -, hf', -, -, -, hown2, -⟩ := Cond.laysFinal_spec hlay
    have e1 : c' = cf := by have := hi.symm.trans hf'; simp at this; exact this.1.symm
    rw [hdecl] at hown2
    rw [← e1]; exact Option.some.inj (hown.symm.trans hown2)
  have hn : narrow (q_cty b w) (.ref q) = .ref q ∧ fits (q_cty b w) (.ref q) = true := by
    cases h : q_cty b w <;> rw [h] at hfk <;> first | exact ⟨rfl, rfl⟩ | (cases hfk)
  have h6 := u_fits hfc hkC hkind (Or.inr hlay) hi (q_ty b w h9 hw) hn.1 hn.2
  have hAr : A r := hA r (by rw [hr]; exact Nat.le_refl _) (by rw [hr]; exact Nat.le_of_ble_eq_true rfl)
  unfold q_fok at hf
  rw [if_pos him] at hf
  refine W.putFinK hx hb hown (hts _ (q_w_in hf)) hi hst hcf (hin2 hini) (by rw [q2]; exact h6) q1 q3 (by rw [hsl]; exact k2_hasslot (q4 w hw)) rfl rfl hd fun H' e1 e2 e3 => ?_
  rw [hsl] at e1
  exact kk H' _ ls ⟨rep_R (by rw [hr]; omega) hH e2 e3 (at_R h9 hw hfk hr q2 q3 q4 hap e1), hS.put e2 e3 hAr, hA, hL⟩
/-- a row of ints or bytes is read -/
theorem s_iald (X : qCx p R s m args meth c dd id D dA fx A) {H : Heap} {locs : List Loc} {ls : Array Slot} (hH : Rep D dA fx M H) {r : Nat} {i : Int32} (hr : (qS M r).1 = 2 ∨ (qS M r).1 = 7) (hi : vp_in i (qS M r).2) (hd : decode (q_meth id).2.1 pc = .ok (.iaload, 1))
    (kk : W p l e R s m args below meth c H locs cn nn Z (F0 m (pc + 1) ls (.int (qI M r i.toNatClampNeg) :: st))) : W p l e R s m args below meth c H locs cn nn Z (F0 m pc ls (.int i :: .ref r :: st)) := by
  obtain ⟨hx, hb, hml, hown, hts, hK, -⟩ := X
  have hlt : i.toNatClampNeg < (qS M r).2 := Nat.not_le.mp fun q => hi (Or.inr q)
  rcases hr with hr | hr
  · have h1 := (hH.2.1 r).2.1 (Or.inl hr)
    rw [hr] at h1
    exact W.iald (v := .int (qI M r i.toNatClampNeg)) hx hb h1 ((hK.1.2 0 _ rfl).1 _ (fun j => .int (qI M r j))) (fun q => by cases q) (by show ¬ (i < 0 ∨ (arrV _ _ _).slots.size ≤ _); rw [arrV_size]; exact hi) (by show (arrV _ _ _).slots[_]? = _; rw [arrV_read _ _ hlt]) rfl rfl hd kk
  · obtain ⟨h1, h2⟩ := (hH.2.1 r).2.2.2 (by rw [hr]; exact Nat.le_refl _)
    obtain ⟨h3, h4, h5⟩ := h2 hr
    have h6 := hK.2.2.2.2.2.1 r h3
    exact W.iald (v := .int (qI M r i.toNatClampNeg)) hx hb h1 h6.1 h6.2 (by rw [h4]; exact hi) (h5 _ hlt) rfl rfl hd kk
theorem s_bald (X : qCx p R s m args meth c dd id D dA fx A) {H : Heap} {locs : List Loc} {ls : Array Slot} (hH : Rep D dA fx M H) {r : Nat} {i : Int32} (hr : (qS M r).1 = 3) (hi : vp_in i (qS M r).2) (hd : decode (q_meth id).2.1 pc = .ok (.baload, 1))
    (kk : W p l e R s m args below meth c H locs cn nn Z (F0 m (pc + 1) ls (.int (qI M r i.toNatClampNeg) :: st))) : W p l e R s m args below meth c H locs cn nn Z (F0 m pc ls (.int i :: .ref r :: st)) := by
  obtain ⟨hx, hb, hml, hown, hts, hK, -⟩ := X
  have hlt : i.toNatClampNeg < (qS M r).2 := Nat.not_le.mp fun q => hi (Or.inr q)
  have h1 := (hH.2.1 r).2.1 (Or.inr hr)
  rw [hr] at h1
  exact W.bald (v := .int (qI M r i.toNatClampNeg)) hx hb h1 ((hK.1.2 1 _ rfl).1 _ (fun j => .int (qI M r j))) (fun q => by cases q) (by show ¬ (i < 0 ∨ (arrV _ _ _).slots.size ≤ _); rw [arrV_size]; exact hi) (by show (arrV _ _ _).slots[_]? = _; rw [arrV_read _ _ hlt]) rfl rfl hd kk
theorem s_aald (X : qCx p R s m args meth c dd id D dA fx A) {H : Heap} {locs : List Loc} {ls : Array Slot} (hH : Rep D dA fx M H) {r : Nat} {i : Int32} (hr : (qS M r).1 = 4 ∨ (qS M r).1 = 5 ∨ (qS M r).1 = 6) (hi : vp_in i (qS M r).2) (hd : decode (q_meth id).2.1 pc = .ok (.aaload, 1))
    (kk : W p l e R s m args below meth c H locs cn nn Z (F0 m (pc + 1) ls (va_rf (qR M r i.toNatClampNeg) :: st))) : W p l e R s m args below meth c H locs cn nn Z (F0 m pc ls (.int i :: .ref r :: st)) := by
  obtain ⟨hx, hb, hml, hown, hts, hK, -⟩ := X
  have hlt : i.toNatClampNeg < (qS M r).2 := Nat.not_le.mp fun q => hi (Or.inr q)
  have h1 := (hH.2.1 r).2.2.1 hr
  have h2 : ∃ ty, s.isArrayOf (vp_cell (dA (qS M r).1) ((qS M r).2, .inr (.inr (.inr (.inr (qR M r)))))) ty ∧ ty.isReference = true := by
    rcases hr with hr | hr | hr <;> rw [hr]
    · exact ⟨_, (hK.1.2 2 _ rfl).1 _ (fun j => va_rf (qR M r j)), rfl⟩
    · exact ⟨_, (hK.1.2 3 _ rfl).1 _ (fun j => va_rf (qR M r j)), rfl⟩
    · exact ⟨_, (hK.1.2 4 _ rfl).1 _ (fun j => va_rf (qR M r j)), rfl⟩
  obtain ⟨ty, h3, h4⟩ := h2
  exact W.aald (v := va_rf (qR M r i.toNatClampNeg)) (ty := ty) hx hb h1 h3 h4 (fun q => by cases q) (by show ¬ (i < 0 ∨ (arrV _ _ _).slots.size ≤ _); rw [arrV_size]; exact hi) (by show (arrV _ _ _).slots[_]? = _; rw [arrV_read _ _ hlt]) rfl rfl hd kk
theorem at_aI {H' : Heap} {r k : Nat} {x : Int32} (hr : (qS M r).1 = 2 ∨ (qS M r).1 = 3) (e1 : H'[r]? = some ((vp_cell (dA (qS M r).1) ((qS M r).2, .inl (qI M r))).setSlot k (.int x))) : q_at D dA fx (pI M r k x) r H' := by
  have e : H'[r]? = some (vp_cell (dA (qS M r).1) ((qS M r).2, .inl (qI (pI M r k x) r))) := by
    rw [e1, vp_cell_i, vp_cell_i, arrV_store]
    congr 2
    funext q
    dsimp only [updV]
    rw [qI_pI]
    by_cases hq : q = k
    · rw [if_pos hq, if_pos ⟨rfl, hq⟩]
    · rw [if_neg hq, if_neg (fun z => hq z.2)]
  refine ⟨fun h => ?_, fun _ => e, fun h => ?_, fun h => ?_⟩ <;> rw [qS_pI] at h <;> omega
theorem s_iast (X : qCx p R s m args meth c dd id D dA fx A) {H : Heap} {locs : List Loc} {ls : Array Slot} (S : qSt s A H locs ls id D dA fx L M) {r : Nat} {i x : Int32} (hr : (qS M r).1 = 2) (hi : vp_in i (qS M r).2) (hd : decode (q_meth id).2.1 pc = .ok (.iastore, 1))
    (kk : qG p l e R s m args below meth c Z id D dA fx A (pc + 1, L, st, cn, nn, pI M r i.toNatClampNeg x)) : W p l e R s m args below meth c H locs cn nn Z (F0 m pc ls (.int x :: .int i :: .ref r :: st)) := by
  obtain ⟨hH, hS, hA, hL⟩ := S
  obtain ⟨hx, hb, hml, hown, hts, hK, -⟩ := X
  have h1 := (hH.2.1 r).2.1 (Or.inl hr)
  have hAr : A r := hA r (by omega) (by omega)
  have h2 := (hK.1.2 0 _ rfl).1 (qS M r).2 (fun j => .int (qI M r j))
  refine W.iast hx hb h1 (by rw [hr]; exact h2) (fun q => by cases q) (by show ¬ (i < 0 ∨ (arrV _ _ _).slots.size ≤ _); rw [arrV_size]; exact hi) rfl rfl hd fun H1 e z oq => ?_
  exact kk H1 _ ls ⟨rep_I (by omega) hH z oq (at_aI (Or.inl hr) e), hS.put z oq hAr, hA, hL⟩
theorem s_bast (X : qCx p R s m args meth c dd id D dA fx A) {H : Heap} {locs : List Loc} {ls : Array Slot} (S : qSt s A H locs ls id D dA fx L M) {r : Nat} {i x : Int32} (hr : (qS M r).1 = 3) (hi : vp_in i (qS M r).2) (hd : decode (q_meth id).2.1 pc = .ok (.bastore, 1))
    (kk : qG p l e R s m args below meth c Z id D dA fx A (pc + 1, L, st, cn, nn, pI M r i.toNatClampNeg (qnar x))) : W p l e R s m args below meth c H locs cn nn Z (F0 m pc ls (.int x :: .int i :: .ref r :: st)) := by
  obtain ⟨hH, hS, hA, hL⟩ := S
  obtain ⟨hx, hb, hml, hown, hts, hK, -⟩ := X
  have h1 := (hH.2.1 r).2.1 (Or.inr hr)
  have hAr : A r := hA r (by omega) (by omega)
  have h2 := (hK.1.2 1 _ rfl).1 (qS M r).2 (fun j => .int (qI M r j))
  refine W.bast hx hb h1 (by rw [hr]; exact h2) (fun q => by cases q) (by show ¬ (i < 0 ∨ (arrV _ _ _).slots.size ≤ _); rw [arrV_size]; exact hi) rfl rfl hd fun H1 e z oq => ?_
  exact kk H1 _ ls ⟨rep_I (by omega) hH z oq (at_aI (Or.inr hr) e), hS.put z oq hAr, hA, hL⟩
theorem s_aast (X : qCx p R s m args meth c dd id D dA fx A) {H : Heap} {locs : List Loc} {ls : Array Slot} (S : qSt s A H locs ls id D dA fx L M) {r v : Nat} {i : Int32} (hr : ((qS M r).1 = 4 ∧ qS M v = (1, 3)) ∨ ((qS M r).1 = 5 ∧ qS M v = (1, 5))) (hi : vp_in i (qS M r).2) (hd : decode (q_meth id).2.1 pc = .ok (.aastore, 1))
    (kk : qG p l e R s m args below meth c Z id D dA fx A (pc + 1, L, st, cn, nn, pR M r i.toNatClampNeg (some v))) : W p l e R s m args below meth c H locs cn nn Z (F0 m pc ls (.ref v :: .int i :: .ref r :: st)) := by
  obtain ⟨hH, hS, hA, hL⟩ := S
  obtain ⟨hx, hb, hml, hown, hts, hK, -⟩ := X
  have hr2 : (qS M r).1 = 4 ∨ (qS M r).1 = 5 ∨ (qS M r).1 = 6 := by omega
  have h1 := (hH.2.1 r).2.2.1 hr2
  have hAr : A r := hA r (by omega) (by omega)
  have hlt : i.toNatClampNeg < (qS M r).2 := Nat.not_le.mp fun q => hi (Or.inr q)
  have h0 : ¬ i < 0 := fun q => hi (Or.inl q)
  have key : ∃ ci k : Nat, (qS M v = (1, ci) ∧ ci < 9) ∧ (q_tys dA)[k]? = some (dA (qS M r).1, FieldType.object (q_cR ci)) := by
    rcases hr with ⟨h3, h4⟩ | ⟨h3, h4⟩
    · exact ⟨3, 2, ⟨h4, by decide⟩, by rw [h3]; rfl⟩
    · exact ⟨5, 3, ⟨h4, by decide⟩, by rw [h3]; rfl⟩
  obtain ⟨ci, k, ⟨hv, hci⟩, ht⟩ := key
  have h5 := (hH.2.1 v).1 (by rw [hv])
  rw [hv] at h5
  obtain ⟨h9, cellV, g1, g2, g3, -⟩ := h5
  dsimp only at g2
  have hcls := (hK.1.1 ci _ (q_cl ci hci)).2
  obtain ⟨kA, comp, k1, k2, k3, -⟩ := (hK.1.2 k _ ht).2
  dsimp only at k1 k2 k3 hcls
  have hcomp : comp = D.1 ci := Option.some.inj (k3.symm.trans hcls.1)
  subst hcomp
  obtain ⟨kC, hkC, -⟩ := hcls.2
  refine W.aast hx hb h1 (fun q h => by cases h) (fun h => by cases h) k1 k2 rfl hkC ⟨h0, by show _ < (arrV _ _ _).slots.size; rw [arrV_size]; exact hlt⟩ g1 (fun q h => by rw [g3] at h; cases h) (by rw [g2]; exact hkC) (by rw [g2]; exact va_assign hcls) rfl rfl hd fun H1 e z oq => ?_
  have e2 : H1[r]? = some (vp_cell (dA (qS M r).1) ((qS M r).2, .inr (.inr (.inr (.inr (qR (pR M r i.toNatClampNeg (some v)) r)))))) := by
    rw [e, vp_cell_q, vp_cell_q, arrV_store]
    congr 2
    funext q
    dsimp only [updV]
    rw [qR_pR]
    by_cases hq : q = i.toNatClampNeg
    · rw [if_pos hq, if_pos ⟨rfl, hq⟩]; rfl
    · rw [if_neg hq, if_neg (fun z => hq z.2)]
  refine kk H1 _ ls ⟨rep_R (by omega) hH z oq ⟨fun h => ?_, fun h => ?_, fun _ => e2, fun h => ?_⟩, hS.put z oq hAr, hA, hL⟩ <;> rw [qS_pR] at h <;> omega
theorem s_alen (X : qCx p R s m args meth c dd id D dA fx A) {H : Heap} {locs : List Loc} {ls : Array Slot} (hH : Rep D dA fx M H) {r : Nat} (h2 : 2 ≤ (qS M r).1) (h7 : (qS M r).1 ≤ 7) (hd : decode (q_meth id).2.1 pc = .ok (.arraylength, 1))
    (kk : W p l e R s m args below meth c H locs cn nn Z (F0 m (pc + 1) ls (.int (Int32.ofNat (qS M r).2) :: st))) : W p l e R s m args below meth c H locs cn nn Z (F0 m pc ls (.ref r :: st)) := by
  obtain ⟨hx, hb, hml, hown, hts, hK, -⟩ := X
  rcases (show (qS M r).1 = 2 ∨ (qS M r).1 = 3 ∨ ((qS M r).1 = 4 ∨ (qS M r).1 = 5 ∨ (qS M r).1 = 6) ∨ (qS M r).1 = 7 by omega) with hr | hr | hr | hr
  · have h1 := (hH.2.1 r).2.1 (Or.inl hr)
    rw [hr] at h1
    exact W.alen (n := Int32.ofNat (qS M r).2) hx hb h1 ((hK.1.2 0 _ rfl).1 _ (fun j => .int (qI M r j))) (by rw [vp_cell_i, arrV_size] <;> rfl) rfl rfl hd kk
  · have h1 := (hH.2.1 r).2.1 (Or.inr hr)
    rw [hr] at h1
    exact W.alen (n := Int32.ofNat (qS M r).2) hx hb h1 ((hK.1.2 1 _ rfl).1 _ (fun j => .int (qI M r j))) (by rw [vp_cell_i, arrV_size] <;> rfl) rfl rfl hd kk
  · have h1 := (hH.2.1 r).2.2.1 hr
    have h2 : ∃ ty, s.isArrayOf (vp_cell (dA (qS M r).1) ((qS M r).2, .inr (.inr (.inr (.inr (qR M r)))))) ty := by
      rcases hr with hr | hr | hr <;> rw [hr]
      · exact ⟨_, (hK.1.2 2 _ rfl).1 _ (fun j => va_rf (qR M r j))⟩
      · exact ⟨_, (hK.1.2 3 _ rfl).1 _ (fun j => va_rf (qR M r j))⟩
      · exact ⟨_, (hK.1.2 4 _ rfl).1 _ (fun j => va_rf (qR M r j))⟩
    obtain ⟨ty, h3⟩ := h2
    exact W.alen (n := Int32.ofNat (qS M r).2) hx hb h1 h3 (by rw [vp_cell_q, arrV_size] <;> rfl) rfl rfl hd kk
  · obtain ⟨h1, h3⟩ := (hH.2.1 r).2.2.2 (by omega)
    obtain ⟨h3, h4, h5⟩ := h3 hr
    exact W.alen (n := Int32.ofNat (qS M r).2) hx hb h1 (hK.2.2.2.2.2.1 r h3).1 (by rw [h4] <;> rfl) rfl rfl hd kk
theorem q_def : ∀ ci, ci < 9 → ∀ k, k < q_cN ci → defaultValue (q_cty ci k) = q_fv ci k 0 none := by decide +kernel
theorem st_N {H1 H : Heap} {locs : List Loc} {ls : Array Slot} {kd : Nat × Nat} (hA0 : ∀ q, s.heap.size ≤ q → A q) (S : qSt s A H locs ls id D dA fx L M) (z1 : H1.size = H.size + 1) (o1 : ∀ q, q < H.size → H1[q]? = H[q]?) (ha : q_at D dA fx (pN M kd) (qZ M) H1) : qSt s A H1 locs ls id D dA fx L (pN M kd) := by
  obtain ⟨hH, hS, hA, hL⟩ := S
  refine ⟨rep_N hH z1 o1 ha, ⟨Nat.le_trans hS.1 (by omega), fun x h1 h2 => (o1 x (Nat.lt_of_lt_of_le h1 hS.1)).trans (hS.2.1 x h1 h2), hS.2.2⟩, fun q h1 h6 => ?_, hL⟩
  rw [qS_pN] at h1 h6
  by_cases hq : q = qZ M
  · exact hA0 q (by rw [hq, ← hH.1]; exact hS.1)
  · rw [if_neg hq] at h1 h6
    exact hA q h1 h6
theorem s_new (X : qCx p R s m args meth c dd id D dA fx A) {H : Heap} {locs : List Loc} {ls : Array Slot} (S : qSt s A H locs ls id D dA fx L M) (h9 : b < 9) (hw : w = q_cN b) (h1 : Cond.classLink (q_own id) a (q_cR b) ∈ qBIG) (h2 : Cond.instantiable (q_cR b) (q_cN b) ∈ qBIG) (h3 : Cond.initialized (q_cR b) ∈ qBIG) (hc : cn + 1 ≤ R.cells) (hn : nn + w ≤ R.slots) (hd : decode (q_meth id).2.1 pc = .ok (.new a, 3))
    (kk : qG p l e R s m args below meth c Z id D dA fx A (pc + 3, L, .ref (qZ M) :: st, cn + 1, nn + w, pN M (1, b))) : W p l e R s m args below meth c H locs cn nn Z (F0 m pc ls st) := by
  subst hw
  obtain ⟨hx, hb, hml, hown, hts, hK, hA0, -⟩ := X
  have hKn := hK.1.1 b _ (q_cl b h9)
  dsimp only at hKn
  refine W.newcK hx hb hown (hts _ h1) (hts _ h2) (hts _ h3) rfl hd hc hn hKn.2.1 S.1.1 fun H1 kC hkC e1 z1 o1 => ?_
  rw [← S.1.1] at z1 o1
  refine kk H1 locs ls (st_N hA0 S z1 o1 ⟨fun _ => ?_, fun h => ?_, fun h => ?_, fun h => ?_⟩)
  · rw [qS_pN, if_pos rfl]
    refine ⟨h9, (u_born (q_cty b) hts (q_cw b h9) hKn hkC e1 (fun k hk => q_ty b k h9 hk)).to fun k hk => ?_⟩
    rw [qI_pN, qR_pN, if_pos rfl, if_pos rfl]
    exact q_def b h9 k hk
  all_goals (rw [qS_pN, if_pos rfl] at h; dsimp only at h; omega)
theorem s_newa (X : qCx p R s m args meth c dd id D dA fx A) {H : Heap} {locs : List Loc} {ls : Array Slot} (S : qSt s A H locs ls id D dA fx L M) {k : Int32} (hb2 : b = 2 ∨ b = 3) (hk : vp_in k 1000) (hc : cn + 1 ≤ R.cells) (hn : nn + k.toNatClampNeg ≤ R.slots) (hd : decode (q_meth id).2.1 pc = .ok (.newarray (if b = 2 then .int else .byte), 2))
    (kk : qG p l e R s m args below meth c Z id D dA fx A (pc + 2, L, .ref (qZ M) :: st, cn + 1, nn + k.toNatClampNeg, pN M (b, k.toNatClampNeg))) : W p l e R s m args below meth c H locs cn nn Z (F0 m pc ls (.int k :: st)) := by
  obtain ⟨hx, hb, hml, hown, hts, hK, hA0, -⟩ := X
  have h0 : ¬ k < 0 := fun q => hk (Or.inl q)
  have hlt : k.toNatClampNeg < 1000 := Nat.not_le.mp fun q => hk (Or.inr q)
  have fin : ∀ (H' : Heap), H'[qZ M]? = some (arrV (dA b) k.toNatClampNeg (fun _ => .int 0)) → H'.size = qZ M + 1 → (∀ q, q < qZ M → H'[q]? = H[q]?) → W p l e R s m args below meth c H' locs (cn + 1) (nn + k.toNatClampNeg) Z (F0 m (pc + 2) ls (.ref (qZ M) :: st)) := by
    intro H' e1 z1 o1
    rw [← S.1.1] at z1 o1
    refine kk H' locs ls (st_N hA0 S z1 o1 ⟨fun h => ?_, fun h => ?_, fun h => ?_, fun h => ?_⟩)
    · rw [qS_pN, if_pos rfl] at h; dsimp only at h; omega
    · rw [qS_pN, if_pos rfl, vp_cell_i, e1]
      congr 2
      funext j
      rw [qI_pN, if_pos rfl]
    all_goals (rw [qS_pN, if_pos rfl] at h; dsimp only at h; omega)
  rcases hb2 with rfl | rfl
  · refine va_newaK (atype := .int) hx hb (hts _ (q_w_in q_ac2)) rfl hd rfl h0 rfl (by show _ * 4 ≤ _; omega) hc hn S.1.1 fun H' cA e1 z1 o1 hAr hNm => ?_
    have hcA : cA = dA 2 := Option.some.inj (hNm.symm.trans (hK.1.2 0 _ rfl).2)
    subst hcA
    exact fin H' e1 z1 o1
  · refine va_newaK (atype := .byte) hx hb (hts _ (q_w_in q_ac3)) rfl hd rfl h0 rfl (by show _ * 1 ≤ _; omega) hc hn S.1.1 fun H' cA e1 z1 o1 hAr hNm => ?_
    have hcA : cA = dA 3 := Option.some.inj (hNm.symm.trans (hK.1.2 1 _ rfl).2)
    subst hcA
    exact fin H' e1 z1 o1
theorem s_newq (X : qCx p R s m args meth c dd id D dA fx A) {H : Heap} {locs : List Loc} {ls : Array Slot} (S : qSt s A H locs ls id D dA fx L M) {k : Int32} (hb4 : (b = 4 ∧ Cond.classLink (q_own id) a "NailedYears$Nail" ∈ qBIG) ∨ (b = 5 ∧ Cond.classLink (q_own id) a "NailedYears$Wall" ∈ qBIG)) (hk : vp_in k 1000) (hc : cn + 1 ≤ R.cells) (hn : nn + k.toNatClampNeg ≤ R.slots) (hd : decode (q_meth id).2.1 pc = .ok (.anewarray a, 3))
    (kk : qG p l e R s m args below meth c Z id D dA fx A (pc + 3, L, .ref (qZ M) :: st, cn + 1, nn + k.toNatClampNeg, pN M (b, k.toNatClampNeg))) : W p l e R s m args below meth c H locs cn nn Z (F0 m pc ls (.int k :: st)) := by
  obtain ⟨hx, hb, hml, hown, hts, hK, hA0, -⟩ := X
  have h0 : ¬ k < 0 := fun q => hk (Or.inl q)
  have hlt : k.toNatClampNeg < 1000 := Nat.not_le.mp fun q => hk (Or.inr q)
  have fin : 4 ≤ b → b ≤ 5 → ∀ (H1 : Heap), H1 = H.push ({ cls := dA b, slots := Array.replicate k.toNatClampNeg .null, vm := .none } : Cell) → W p l e R s m args below meth c H1 locs (cn + 1) (nn + k.toNatClampNeg) Z (F0 m (pc + 3) ls (.ref H.size :: st)) := by
    intro h4 h5 H1 hH1
    have z1 : H1.size = H.size + 1 := by rw [hH1, Array.size_push]
    have e1 : H1[H.size]? = some (arrV (dA b) k.toNatClampNeg (fun _ => .null)) := by rw [hH1, Array.getElem?_push_size, ← arrV_new]
    have o1 : ∀ q : Nat, q < H.size → H1[q]? = H[q]? := fun q hq => by rw [hH1, Array.getElem?_push, if_neg (Nat.ne_of_lt hq)]
    rw [show H.size = qZ M from S.1.1] at e1
    rw [show H.size = qZ M from S.1.1]
    refine kk H1 locs ls (st_N hA0 S z1 o1 ⟨fun h => ?_, fun h => ?_, fun h => ?_, fun h => ?_⟩)
    · rw [qS_pN, if_pos rfl] at h; dsimp only at h; omega
    · rw [qS_pN, if_pos rfl] at h; dsimp only at h; omega
    · rw [qS_pN, if_pos rfl, vp_cell_q, e1]
      congr 2
      funext j
      rw [qR_pN, if_pos rfl]; rfl
    · rw [qS_pN, if_pos rfl] at h; dsimp only at h; omega
  rcases hb4 with ⟨rfl, hw⟩ | ⟨rfl, hw⟩
  · refine W.anew hx hb hown (hts _ hw) (va_AO.use hK.2.1) rfl hd rfl h0 (by omega) hc hn fun cA kA comp f1 f2 f3 f4 => ?_
    obtain ⟨_, _, -, -, -, f5⟩ := (hK.1.2 2 _ rfl).2
    have hcA : cA = dA 4 := Option.some.inj (f1.symm.trans f5)
    subst hcA
    exact fin (by omega) (by omega) _ rfl
  · refine W.anew hx hb hown (hts _ hw) (va_AO.use hK.2.2.1) rfl hd rfl h0 (by omega) hc hn fun cA kA comp f1 f2 f3 f4 => ?_
    obtain ⟨_, _, -, -, -, f5⟩ := (hK.1.2 3 _ rfl).2
    have hcA : cA = dA 5 := Option.some.inj (f1.symm.trans f5)
    subst hcA
    exact fin (by omega) (by omega) _ rfl
theorem q_tb_over {t : FieldType} {B : Array Value} {u : State} (h : (Cond.arrayOver (.array t)).before #[] u = true) : (Cond.arrayOver (.array t)).before B u = true := h
/-- two dimensions of ints -/
theorem s_newm (X : qCx p R s m args meth c dd id D dA fx A) {H : Heap} {locs : List Loc} {ls : Array Slot} (S : qSt s A H locs ls id D dA fx L M) {k n : Int32} (hw : Cond.classLink (q_own id) a "[[I" ∈ qBIG) (hk : vp_in k 1000) (hn : vp_in n 1000) (hc : cn + (1 + n.toNatClampNeg) ≤ R.cells) (hs : nn + (n.toNatClampNeg + n.toNatClampNeg * k.toNatClampNeg) ≤ R.slots) (hd : decode (q_meth id).2.1 pc = .ok (.multianewarray a 2, 4))
    (kk : qG p l e R s m args below meth c Z id D dA fx A (pc + 4, L, .ref (qZ M) :: st, cn + 1 + n.toNatClampNeg, nn + n.toNatClampNeg + n.toNatClampNeg * k.toNatClampNeg, pMN M n.toNatClampNeg k.toNatClampNeg)) : W p l e R s m args below meth c H locs cn nn Z (F0 m pc ls (.int k :: .int n :: st)) := by
  obtain ⟨hx, hb, hml, hown, hts, hK, hA0, -⟩ := X
  have hk0 : ¬ k < 0 := fun q => hk (Or.inl q)
  have hkl : k.toNatClampNeg < 1000 := Nat.not_le.mp fun q => hk (Or.inr q)
  have hn0 : ¬ n < 0 := fun q => hn (Or.inl q)
  have hnl : n.toNatClampNeg < 1000 := Nat.not_le.mp fun q => hn (Or.inr q)
  intro T hT Xs
  obtain ⟨vm₁, cA, comp, -, fA, fC, hO, -, X', step⟩ := Xs.multianewarray2F hx hown (index := a) (ty := .int) (hts _ hw) (q_tb_over hK.2.2.2.1) (hts _ (q_w_in q_ac2)) (g := F0 m pc ls (.int k :: .int n :: st)) rfl (by rw [hb]; exact hd) rfl hn0 hk0 (by omega) (by show _ * 4 ≤ _; omega) (by omega) rfl rfl hc hs
  have hc2 : comp = dA 2 := Option.some.inj (fC.symm.trans (hK.1.2 0 _ rfl).2)
  have hc6 : cA = dA 6 := Option.some.inj (fA.symm.trans (hK.1.2 4 _ rfl).2)
  subst hc2 hc6
  generalize hF : Jvm.Free.Multi.fill (T.setVm vm₁) (dA 6) (dA 2) n.toNatClampNeg k.toNatClampNeg (defaultValue .int) n.toNatClampNeg = F at X' step
  have hTh : (T.setVm vm₁).heap = H := hT
  obtain ⟨f1, f2, -, -⟩ := Jvm.Free.Multi.fill_facts (T.setVm vm₁) (dA 6) (dA 2) n.toNatClampNeg k.toNatClampNeg (defaultValue .int) n.toNatClampNeg
  rw [hF, hTh] at f1 f2
  have hold : ∀ x : Nat, x < H.size → F.heap[x]? = H[x]? := fun x hx => by
    have := Jvm.Free.Multi.fill_old (T.setVm vm₁) (dA 6) (dA 2) n.toNatClampNeg k.toNatClampNeg (defaultValue .int) (a := x) (by rw [hTh]; exact hx) n.toNatClampNeg
    rw [hF, hTh] at this
    exact this
  have hrow : ∀ j : Nat, j < n.toNatClampNeg → F.heap[H.size + 1 + j]? = some (Jvm.Free.Multi.innerC (dA 2) k.toNatClampNeg (defaultValue .int)) := fun j hj => by
    have := Jvm.Free.Multi.fill_inner (T.setVm vm₁) (dA 6) (dA 2) n.toNatClampNeg k.toNatClampNeg (defaultValue .int) n.toNatClampNeg j hj
    rw [hF, hTh] at this
    exact this
  obtain ⟨hH, hS, hA, hL⟩ := S
  have hz := hH.1
  rw [hz] at f1 f2 hold hrow
  rw [vr_outer] at f2
  have hRep : Rep D dA fx (pMN M n.toNatClampNeg k.toNatClampNeg) F.heap := by
    refine ⟨f1, fun q => ?_, fun q hq => ?_, hH.2.2.2⟩
    rotate_left
    · have hl := rx_lt hH hq
      have hz9 := hH.1
      exact ⟨by rw [show qS (pMN M n.toNatClampNeg k.toNatClampNeg) q = qS M q from (if_neg (by omega)).trans (if_neg (by omega))]; exact (hH.2.2.1 q hq).1, (hold q (by omega)).trans (hH.2.2.1 q hq).2⟩
    by_cases h1 : q = qZ M
    · subst h1
      have e1 : qS (pMN M n.toNatClampNeg k.toNatClampNeg) (qZ M) = (6, n.toNatClampNeg) := if_pos rfl
      refine ⟨fun h => ?_, fun h => ?_, fun h => ?_, fun h => ?_⟩
      · rw [e1] at h; dsimp only at h; omega
      · rw [e1] at h; dsimp only at h; omega
      · rw [e1, vp_cell_q, f2]
        congr 2
        funext j
        exact congrArg va_rf (show _ = qR (pMN M n.toNatClampNeg k.toNatClampNeg) (qZ M) j from (if_pos rfl).symm)
      · rw [e1] at h; dsimp only at h; omega
    · by_cases h2 : qZ M < q ∧ q ≤ qZ M + n.toNatClampNeg
      · have e1 : qS (pMN M n.toNatClampNeg k.toNatClampNeg) q = (2, k.toNatClampNeg) := (if_neg h1).trans (if_pos h2)
        have e2 : ∀ j, qI (pMN M n.toNatClampNeg k.toNatClampNeg) q j = 0 := fun j => if_pos ⟨by omega, h2.2⟩
        have e3 := hrow (q - qZ M - 1) (by omega)
        rw [show qZ M + 1 + (q - qZ M - 1) = q by omega] at e3
        refine ⟨fun h => ?_, fun h => ?_, fun h => ?_, fun h => ?_⟩
        · rw [e1] at h; dsimp only at h; omega
        · rw [e1, vp_cell_i, e3]
          show some ({ cls := dA 2, slots := Array.replicate k.toNatClampNeg (defaultValue .int), vm := .none } : Cell) = _
          rw [arrV_new]
          congr 2
          funext j
          rw [e2]; rfl
        · rw [e1] at h; dsimp only at h; omega
        · rw [e1] at h; dsimp only at h; omega
      · have e1 : qS (pMN M n.toNatClampNeg k.toNatClampNeg) q = qS M q := (if_neg h1).trans (if_neg h2)
        have e2 : qI (pMN M n.toNatClampNeg k.toNatClampNeg) q = qI M q := by funext j; exact if_neg (by omega)
        have e3 : qR (pMN M n.toNatClampNeg k.toNatClampNeg) q = qR M q := by funext j; exact (if_neg h1).trans (if_neg h2)
        refine (hH.2.1 q).kept e1 e2 e3 ?_
        rcases Nat.lt_or_ge q (qZ M) with h3 | h3
        · exact hold q h3
        · rw [Array.getElem?_eq_none (by omega), Array.getElem?_eq_none (by omega)]
  obtain ⟨t, a1, b1⟩ := kk F.heap locs ls ⟨hRep, ⟨by have := hS.1; omega, fun x h1 h2 => (hold x (by have := hS.1; omega)).trans (hS.2.1 x h1 h2), hS.2.2⟩, fun q h1 h6 => by
      by_cases h3 : q < qZ M
      · have e1 : qS (pMN M n.toNatClampNeg k.toNatClampNeg) q = qS M q := (if_neg (by omega)).trans (if_neg (by omega))
        rw [e1] at h1 h6
        exact hA q h1 h6
      · exact hA0 q (by have := hS.1; omega), hL⟩ F rfl X'
  refine ⟨t, step t ?_, b1⟩
  have e : T.heap.size = qZ M := by rw [hT]; exact hz
  rw [e]
  exact a1
def qAf (M : qM) : Nat → Prop := fun q => (1 ≤ (qS M q).1 ∧ (qS M q).1 ≤ 6) ∨ qZ M ≤ q
def qPc (as : List Value) (D : va_G) (dA : Nat → ClassId) (fx : qFx) (M : qM) : Array Value → State → Prop := va_Pc as (fun U => Rep D dA fx M U.heap ∧ qK D dA fx U)
def qQ (D : va_G) (dA : Nat → ClassId) (fx : qFx) (A : Nat → Prop) (o : qOut) : Array Value → State → Outcome → State → Prop := fun _ st oc t => oc = .returned o.1 ∧ Rep D dA fx o.2 t.heap ∧ (∀ q, 1 ≤ (qS o.2 q).1 → (qS o.2 q).1 ≤ 6 → A q) ∧ va_F A st t
def qWS (id : Nat) : List Cond := .code (q_meth id).1 (q_meth id).2.1 (q_meth id).2.2.1 (q_meth id).2.2.2.1 :: qBIG
def qRM (d id : Nat) : Room := { frames := d + 4, cells := (q_meth id).2.2.2.2.2.2.1, slots := (q_meth id).2.2.2.2.2.2.2, locals := 40 * (d + 4) }
def qMet (l : Launch) (d id : Nat) (as : List Value) (D : va_G) (dA : Nat → ClassId) (fx : qFx) (M : qM) (o : qOut) : Prop := Met l (q_meth id).1 (qWS id) (qRM d id) (qPc as D dA fx M) (qQ D dA fx (qAf M) o) (q_meth id).2.2.2.2.2.2.1 (q_meth id).2.2.2.2.2.2.2 (qAf M)
theorem qPc_blind {as : List Value} : FrameBlind (qPc as D dA fx M) := fun a U g mk q => ⟨q.1, q.2.1, qK.same (s := U) (U := U.calling g mk a) rfl q.2.2⟩
theorem qBIG_good : ∀ w ∈ qBIG, goodWord w = true := fun w h => (List.mem_filter.mp h).2
theorem qGood {i : Nat} (h : Cond.code (q_meth i).1 (q_meth i).2.1 (q_meth i).2.2.1 (q_meth i).2.2.2.1 ∈ qBIG) : GoodIn qBIG (qWS i) := by
  intro w hw
  rcases List.mem_cons.mp hw with rfl | hw
  · exact ⟨h, good_of_word (qBIG_good _ h)⟩
  · exact ⟨hw, good_of_word (qBIG_good _ hw)⟩
theorem cat_le (r : List Value) : (r.map fun v => v.category).sum ≤ 2 * r.length := by
  induction r with
  | nil => exact Nat.le_refl _
  | cons v r ih =>
    simp only [List.map_cons, List.sum_cons, List.length_cons]
    rcases lv_cat v with h | h <;> omega
theorem cat8 {r : List Value} (h : r.length ≤ 4) : (r.map fun v => v.category).sum ≤ 8 := Nat.le_trans (cat_le r) (by omega)
/-- behind a call -/
theorem s_after {H : Heap} {locs : List Loc} {ls : Array Slot} {rest st0 : List Value} {o : qOut} {mc' ms' : Nat} {av : Array Value} (hA0 : ∀ q, s.heap.size ≤ q → A q) (S : qSt s A H locs ls id D dA fx L M) (hr : va_Run p l e R s m args below meth c H locs cn nn mc' ms' (F0 m pc ls st0) rest (qQ D dA fx (qAf M) o av) (qAf M))
    (kk : qG p l e R s m args below meth c Z id D dA fx A (pc + 3, L, o.1.toList ++ rest, cn + mc', nn + ms', o.2)) : W p l e R s m args below meth c H locs cn nn Z (F0 m pc ls st0) := by
  obtain ⟨hH, hS, hA, hL⟩ := S
  have hAf : ∀ q, qAf M q → A q := fun q h => h.elim (fun h => hA q h.1 h.2) (fun h => hA0 q (by have := hS.1; rw [hH.1] at this; omega))
  intro T hT Xs
  obtain ⟨v, st₀, t, T', Lx, h0, X', hLx, e1, e2, ⟨hv, hRep, hAw, hF⟩, stp⟩ := hr T hT Xs
  have hv : v = o.1 := Outcome.returned.inj hv
  subst hv
  unfold va_F at hF
  rw [h0] at hF
  obtain ⟨t2, a1, b1⟩ := kk T'.heap (locs ++ Lx) ls ⟨by rw [e1]; exact hRep, ⟨by rw [e1]; exact Nat.le_trans hS.1 hF.1, fun q h1 h2 => by
      rw [e1, hF.2 q (Nat.lt_of_lt_of_le h1 hS.1) (fun z => h2 (hAf q z))]
      exact hS.2.1 q h1 h2, fun q hq => by
      rcases List.mem_append.mp hq with h | h
      · exact hS.2.2 q h
      · exact hAf _ (hLx q h)⟩, fun q h1 h6 => hAf q (hAw q h1 h6), hL⟩ T' rfl X'
  exact ⟨t2, stp t2 a1, b1⟩
end QSND
