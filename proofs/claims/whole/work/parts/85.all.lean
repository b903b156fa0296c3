/-! ===== runs, methods ===== -/
section QALL
variable {p : Program} {l : Launch} {e : Env} {R : Room} {s : State} {m : MethodId} {args : Array Value} {below : List Frame} {meth : Method} {c : Code} {Z : State → Prop} {dd id : Nat} {D : va_G} {dA : Nat → ClassId} {fx : qFx} {A : Nat → Prop}
theorem prog_mem {i pc : Nat} {op : qO} {len : Nat} (h : q_prog i pc = some (op, len)) : (pc, op, len) ∈ q_tabs.getD i [] := by
  unfold q_prog at h
  cases hf : (q_tabs.getD i []).find? (fun q => Nat.beq q.1 pc) with
  | none => rw [hf] at h; cases h
  | some q =>
    rw [hf] at h
    obtain ⟨q1, q2⟩ := q
    have h2 : q2 = (op, len) := Option.some.inj h
    have h3 := List.find?_some hf
    have h4 : q1 = pc := Nat.eq_of_beq_eq_true h3
    subst h2; subst h4
    exact List.mem_of_find?_eq_some hf
/-- what is asked of the end: from any state with the answer's memory, at the instruction that returns it -/
def qEnd (p : Program) (l : Launch) (e : Env) (R : Room) (s : State) (m : MethodId) (args : Array Value) (below : List Frame) (meth : Method) (c : Code) (Z : State → Prop) (id : Nat) (D : va_G) (dA : Nat → ClassId) (fx : qFx) (A : Nat → Prop) (o : qOut) : Prop :=
  ∀ (H : Heap) (locs : List Loc) (ls : Array Slot) (pc cn nn : Nat), Rep D dA fx o.2 H → va_S A s.heap H locs → (∀ q, 1 ≤ (qS o.2 q).1 → (qS o.2 q).1 ≤ 6 → A q) → cn ≤ (q_meth id).2.2.2.2.2.2.1 → nn ≤ (q_meth id).2.2.2.2.2.2.2 →
    (match o.1 with
    | none => decode (q_meth id).2.1 pc = .ok (.return_, 1) ∧ (q_meth id).2.2.2.1 = none
    | some (.int v) => decode (q_meth id).2.1 pc = .ok (.ireturn, 1) ∧ ∃ ty, (q_meth id).2.2.2.1 = some ty ∧ narrow ty (.int v) = .int v
    | some (.ref _) => decode (q_meth id).2.1 pc = .ok (.areturn, 1) ∧ ∃ ty, (q_meth id).2.2.2.1 = some ty ∧ ((∃ n, ty = .object n) ∨ ∃ t, ty = .array t)
    | _ => False) → W p l e R s m args below meth c H locs cn nn Z (F0 m pc ls o.1.toList)
theorem nx_inr {pc len : Nat} {L : List Value} {cn nn : Nat} {M : qM} {o : qOut} {r : Option (List Value)} (h : (Option.map (fun s' => (Sum.inl (pc + len, L, s', cn, nn, M) : qC ⊕ qOut)) r) = some (.inr o)) : False := by
  cases r with
  | none => cases h
  | some s' => cases h
theorem ret_code {oc a b w len pc cn nn : Nat} {im : Int} {tl : List Nat} {L st : List Value} {M : qM} {mc ms : Nat} {o : qOut} (hex : q_ex id (oc, a, b, w, im, tl) = true) (e0 : q0 mc ms (oc, a, b, w, im, tl) len pc L st cn nn M = some (.inr o)) : oc = 55 ∨ oc = 56 ∨ oc = 57 ∨ oc = 62 :=
  match oc, hex, e0 with
  | 0, hex, e0 => by
    cases e0
  | 1, hex, e0 => by
    cases e0
  | 2, hex, e0 => by
    cases e0
  | 3, hex, e0 => by
    cases e0
  | 4, hex, e0 => by
    cases e0
  | 5, hex, e0 => by
    cases e0
  | 31, hex, e0 => by
    cases e0
  | 59, hex, e0 => by
    cases e0
  | 63, hex, e0 => by
    cases e0
  | 6, hex, e0 => by
    exact (nx_inr e0).elim
  | 7, hex, e0 => by
    exact (nx_inr e0).elim
  | 8, hex, e0 => by
    exact (nx_inr e0).elim
  | 9, hex, e0 => by
    exact (nx_inr e0).elim
  | 15, hex, e0 => by
    exact (nx_inr e0).elim
  | 16, hex, e0 => by
    exact (nx_inr e0).elim
  | 17, hex, e0 => by
    exact (nx_inr e0).elim
  | 18, hex, e0 => by
    exact (nx_inr e0).elim
  | 19, hex, e0 => by
    exact (nx_inr e0).elim
  | 20, hex, e0 => by
    exact (nx_inr e0).elim
  | 21, hex, e0 => by
    exact (nx_inr e0).elim
  | 22, hex, e0 => by
    exact (nx_inr e0).elim
  | 23, hex, e0 => by
    exact (nx_inr e0).elim
  | 24, hex, e0 => by
    exact (nx_inr e0).elim
  | 25, hex, e0 => by
    exact (nx_inr e0).elim
  | 27, hex, e0 => by
    exact (nx_inr e0).elim
  | 64, hex, e0 => by
    exact (nx_inr e0).elim
  | 10, hex, e0 => by
    match st, e0 with
    | .int x :: r, e0 =>
      obtain ⟨h0, h1⟩ := qif_some e0
      cases h1
  | 11, hex, e0 => by
    match st, e0 with
    | .int x :: r, e0 =>
      obtain ⟨h0, h1⟩ := qif_some e0
      cases h1
  | 12, hex, e0 => by
    match st, e0 with
    | .ref x :: r, e0 =>
      obtain ⟨h0, h1⟩ := qif_some e0
      cases h1
  | 13, hex, e0 => by
    match st, e0 with
    | .ref x :: r, e0 =>
      obtain ⟨h0, h1⟩ := qif_some e0
      cases h1
  | 28, hex, e0 => by
    match st, e0 with
    | v :: r, e0 =>
      obtain ⟨h0, h1⟩ := qif_some e0
      cases h1
  | 29, hex, e0 => by
    match st, e0 with
    | v :: r, e0 =>
      obtain ⟨h0, h1⟩ := qif_some e0
      cases h1
  | 30, hex, e0 => by
    match st, e0 with
    | v :: u :: r, e0 =>
      obtain ⟨h0, h1⟩ := qif_some e0
      cases h1
  | 38, hex, e0 => by
    match st, e0 with
    | .ref a :: r, e0 =>
      obtain ⟨h0, h1⟩ := qif_some e0
      cases h1
  | 39, hex, e0 => by
    match st, e0 with
    | .ref a :: r, e0 =>
      obtain ⟨h0, h1⟩ := qif_some e0
      cases h1
  | 40, hex, e0 => by
    match st, e0 with
    | .int x :: .ref a :: r, e0 =>
      obtain ⟨h0, h1⟩ := qif_some e0
      cases h1
  | 41, hex, e0 => by
    match st, e0 with
    | .int x :: .ref a :: r, e0 =>
      obtain ⟨h0, h1⟩ := qif_some e0
      cases h1
  | 42, hex, e0 => by
    match st, e0 with
    | .ref x :: .ref a :: r, e0 =>
      obtain ⟨h0, h1⟩ := qif_some e0
      cases h1
  | 43, hex, e0 => by
    match st, e0 with
    | .int i :: .ref a :: r, e0 =>
      obtain ⟨h0, h1⟩ := qif_some e0
      cases h1
  | 44, hex, e0 => by
    match st, e0 with
    | .int x :: .int i :: .ref a :: r, e0 =>
      obtain ⟨h0, h1⟩ := qif_some e0
      cases h1
  | 45, hex, e0 => by
    match st, e0 with
    | .int i :: .ref a :: r, e0 =>
      obtain ⟨h0, h1⟩ := qif_some e0
      cases h1
  | 46, hex, e0 => by
    match st, e0 with
    | .int x :: .int i :: .ref a :: r, e0 =>
      obtain ⟨h0, h1⟩ := qif_some e0
      cases h1
  | 47, hex, e0 => by
    match st, e0 with
    | .int i :: .ref a :: r, e0 =>
      obtain ⟨h0, h1⟩ := qif_some e0
      cases h1
  | 48, hex, e0 => by
    match st, e0 with
    | .ref x :: .int i :: .ref a :: r, e0 =>
      obtain ⟨h0, h1⟩ := qif_some e0
      cases h1
  | 49, hex, e0 => by
    match st, e0 with
    | .ref a :: r, e0 =>
      obtain ⟨h0, h1⟩ := qif_some e0
      cases h1
  | 51, hex, e0 => by
    match st, e0 with
    | .int x :: r, e0 =>
      obtain ⟨h0, h1⟩ := qif_some e0
      cases h1
  | 52, hex, e0 => by
    match st, e0 with
    | .int x :: r, e0 =>
      obtain ⟨h0, h1⟩ := qif_some e0
      cases h1
  | 53, hex, e0 => by
    match st, e0 with
    | .int x :: .int i :: r, e0 =>
      obtain ⟨h0, h1⟩ := qif_some e0
      cases h1
  | 58, hex, e0 => by
    match st, e0 with
    | .ref a :: r, e0 =>
      obtain ⟨h0, h1⟩ := qif_some e0
      cases h1
  | 60, hex, e0 => by
    match st, e0 with
    | .ref a :: r, e0 =>
      obtain ⟨h0, h1⟩ := qif_some e0
      cases h1
  | 61, hex, e0 => by
    match st, e0 with
    | .int i :: .ref a :: r, e0 =>
      obtain ⟨h0, h1⟩ := qif_some e0
      cases h1
  | 65, hex, e0 => by
    match st, e0 with
    | .int y :: .int x :: r, e0 =>
      obtain ⟨h0, h1⟩ := qif_some e0
      cases h1
  | 66, hex, e0 => by
    match st, e0 with
    | .int y :: .int x :: r, e0 =>
      obtain ⟨h0, h1⟩ := qif_some e0
      cases h1
  | 67, hex, e0 => by
    match st, e0 with
    | .int x :: r, e0 =>
      obtain ⟨h0, h1⟩ := qif_some e0
      cases h1
  | 26, hex, e0 => by
    match st, e0 with
    | .int x :: r, e0 => cases e0
  | 32, hex, e0 => by
    match st, e0 with
    | .int y :: .int x :: r, e0 => cases e0
  | 33, hex, e0 => by
    match st, e0 with
    | .int x :: r, e0 => cases e0
  | 34, hex, e0 => by
    match st, e0 with
    | .ref x :: r, e0 => cases e0
  | 35, hex, e0 => by
    match st, e0 with
    | .ref x :: r, e0 => cases e0
  | 36, hex, e0 => by
    match st, e0 with
    | .int x :: r, e0 => cases e0
  | 37, hex, e0 => by
    match st, e0 with
    | .int x :: r, e0 => cases e0
  | 50, hex, e0 => by
    obtain ⟨h0, h1⟩ := qif_some e0
    cases h1
  | 14, hex, e0 => by
    have e1 : (match (L[a]? : Option Value) with | some (.int x) => (some (.inl (pc + len, L.set a (.int (x + Int32.ofInt im)), st, cn, nn, M)) : qX) | _ => none) = some (.inr o) := e0
    split at e1
    · cases e1
    · cases e1
  | 54, hex, e0 => by
    cases e0
  | 55, hex, e0 => by
    exact Or.inl rfl
  | 56, hex, e0 => by
    exact Or.inr (Or.inl rfl)
  | 57, hex, e0 => by
    exact Or.inr (Or.inr (Or.inl rfl))
  | 62, hex, e0 => by
    exact Or.inr (Or.inr (Or.inr rfl))
  | n + 68, hex, e0 => by cases hex
theorem snd_ret {oc a b w len pc cn nn : Nat} {im : Int} {tl : List Nat} {L st : List Value} {M : qM} {mc ms : Nat} {o : qOut} (hd : decode (q_meth id).2.1 pc = .ok (q_ins pc (oc, a, b, w, im, tl), len)) (hlen : (Nat.beq (q_len oc) 0 || Nat.beq len (q_len oc)) = true) (hex : q_ex id (oc, a, b, w, im, tl) = true)
    (e0 : q0 mc ms (oc, a, b, w, im, tl) len pc L st cn nn M = some (.inr o)) (hcn : cn ≤ (q_meth id).2.2.2.2.2.2.1) (hnn : nn ≤ (q_meth id).2.2.2.2.2.2.2) (hend : qEnd p l e R s m args below meth c Z id D dA fx A o) : qG p l e R s m args below meth c Z id D dA fx A (pc, L, st, cn, nn, M) := by
  have h4 := ret_code hex e0
  rcases h4 with rfl | rfl | rfl | rfl
  · match st, e0 with
    | .int x :: [], e0 =>
      obtain rfl := (Sum.inr.inj (Option.some.inj e0)).symm
      obtain rfl : len = 1 := Nat.eq_of_beq_eq_true hlen
      intro H locs ls S
      exact hend H locs ls pc cn nn S.1 S.2.1 S.2.2.1 hcn hnn ⟨hd, .int, of_decide_eq_true hex, rfl⟩
  · match st, e0 with
    | [], e0 =>
      obtain rfl := (Sum.inr.inj (Option.some.inj e0)).symm
      obtain rfl : len = 1 := Nat.eq_of_beq_eq_true hlen
      intro H locs ls S
      exact hend H locs ls pc cn nn S.1 S.2.1 S.2.2.1 hcn hnn ⟨hd, of_decide_eq_true hex⟩
  · match st, e0 with
    | .ref x :: [], e0 =>
      obtain rfl := (Sum.inr.inj (Option.some.inj e0)).symm
      obtain rfl : len = 1 := Nat.eq_of_beq_eq_true hlen
      intro H locs ls S
      refine hend H locs ls pc cn nn S.1 S.2.1 S.2.2.1 hcn hnn ⟨hd, ?_⟩
      have hx : (match (q_meth id).2.2.2.1 with | some t => Nat.beq (q_fk t) 2 | none => false) = true := hex
      split at hx
      · next t ht =>
        refine ⟨t, ht, ?_⟩
        have h2 := Nat.eq_of_beq_eq_true hx
        cases t <;> first | exact Or.inl ⟨_, rfl⟩ | exact Or.inr ⟨_, rfl⟩ | cases h2
      · cases hx
  · match st, e0 with
    | .int x :: [], e0 =>
      obtain ⟨h0, e1⟩ : (x = 0 ∨ x = 1) ∧ (some (Sum.inr (some (.int x), M)) : qX) = some (.inr o) := qif_some e0
      obtain rfl := (Sum.inr.inj (Option.some.inj e1)).symm
      obtain rfl : len = 1 := Nat.eq_of_beq_eq_true hlen
      intro H locs ls S
      exact hend H locs ls pc cn nn S.1 S.2.1 S.2.2.1 hcn hnn ⟨hd, .boolean, of_decide_eq_true hex, narrow_bool h0⟩
theorem q_ex54 {i a b w : Nat} {im : Int} {tl : List Nat} (hex : q_ex i (54, a, b, w, im, tl) = true) : b < q_lawId ∧ q_mok (q_own i) (54, a, b, w, im, tl) = true ∧ ((w = 0 ∨ w = 1) ∧ q_mkind b = 0 ∨ (w = 2 ∨ w = 3) ∧ q_mkind b = 1 ∨ (w = 4 ∨ w = 5) ∧ q_mkind b = 2) := by
  have hx : (Nat.ble (b + 1) q_lawId && (q_mok (q_own i) (54, a, b, w, im, tl) && q_form w b)) = true := hex
  rw [Bool.and_eq_true, Bool.and_eq_true] at hx
  obtain ⟨g1, g2, g3⟩ := hx
  unfold q_form at g3
  refine ⟨Nat.le_of_ble_eq_true g1, g2, ?_⟩
  split at g3
  · exact Or.inl ⟨Or.inl rfl, Nat.eq_of_beq_eq_true g3⟩
  · exact Or.inl ⟨Or.inr rfl, Nat.eq_of_beq_eq_true g3⟩
  · exact Or.inr (Or.inl ⟨Or.inl rfl, Nat.eq_of_beq_eq_true g3⟩)
  · exact Or.inr (Or.inl ⟨Or.inr rfl, Nat.eq_of_beq_eq_true g3⟩)
  · exact Or.inr (Or.inr ⟨Or.inl rfl, Nat.eq_of_beq_eq_true g3⟩)
  · exact Or.inr (Or.inr ⟨Or.inr rfl, Nat.eq_of_beq_eq_true g3⟩)
  · cases g3
theorem snd_run {G : Nat} {o : qOut} (X : qCx p R s m args meth c dd id D dA fx A) (hid : id ≤ q_lawId) (hpk : q_pk id = 0) (hcal : ∀ i as M o, i < q_lawId → as.length = (q_meth i).2.2.2.2.1 → q_ev dd G i as M = some o → qMet l dd i as D dA fx M o) (hend : qEnd p l e R s m args below meth c Z id D dA fx A o) : ∀ (F : Nat) (x : qC), q_run (q_ev dd G) id F x = some o → x.2.2.2.1 ≤ (q_meth id).2.2.2.2.2.2.1 → x.2.2.2.2.1 ≤ (q_meth id).2.2.2.2.2.2.2 → qG p l e R s m args below meth c Z id D dA fx A x := by
  intro F
  induction F with
  | zero => intro x e0; cases e0
  | succ F ih =>
    intro x e0 hcn hnn
    obtain ⟨pc, L, st, cn, nn, M⟩ := x
    rw [q_run] at e0
    split at e0
    · cases e0
    · next op len hp =>
      have hk := k_all id hid hpk _ (prog_mem hp)
      unfold q_chk at hk
      rw [Bool.and_eq_true, Bool.and_eq_true] at hk
      obtain ⟨hk1, hlen, hex⟩ := hk
      have hd : decode (q_meth id).2.1 pc = .ok (q_ins pc op, len) := by
        dsimp only at hk1
        split at hk1
        · next i n hdec =>
          rw [Bool.and_eq_true] at hk1
          rw [hdec, of_decide_eq_true hk1.1, Nat.eq_of_beq_eq_true hk1.2]
        · cases hk1
      obtain ⟨oc, a, b, w, im, tl⟩ := op
      dsimp only at hlen hex e0
      split at e0
      · split at e0
        · cases e0
        · next s' c' n' M' hc =>
          unfold q_call at hc
          obtain ⟨⟨h1, h2, h3, h4, h5⟩, hc⟩ := qif_some hc
          cases hq : q_ev dd G b (st.take (q_meth b).2.2.2.2.1).reverse M with
          | none => rw [hq] at hc; cases hc
          | some o' =>
            rw [hq] at hc
            have hc := Option.some.inj hc
            obtain ⟨rfl, rfl, rfl, rfl⟩ : o'.1.toList ++ st.drop (q_meth b).2.2.2.2.1 = s' ∧ cn + (q_meth b).2.2.2.2.2.2.1 = c' ∧ nn + (q_meth b).2.2.2.2.2.2.2 = n' ∧ o'.2 = M' := by
              simp only [Prod.mk.injEq] at hc
              exact hc
            obtain ⟨g1, g2, g4⟩ := q_ex54 hex
            obtain rfl : len = 3 := Nat.eq_of_beq_eq_true hlen
            have hal : (st.take (q_meth b).2.2.2.2.1).reverse.length = (q_meth b).2.2.2.2.1 := by rw [List.length_reverse, List.length_take]; omega
            have hkk := ih _ e0 h4 h5
            intro H locs ls S
            have hst : st = ((st.take (q_meth b).2.2.2.2.1).reverse).reverse ++ st.drop (q_meth b).2.2.2.2.1 := by rw [List.reverse_reverse, List.take_append_drop]
            have hfin := s_call X S g1 g2 g4 hal h2 h3 (Nat.le_trans h4 X.2.2.2.2.2.2.2.2.1.1) (Nat.le_trans h5 X.2.2.2.2.2.2.2.2.1.2) hd (hcal b _ M o' g1 hal hq) hkk
            rw [← hst] at hfin
            exact hfin
      · next h54 =>
        split at e0
        · cases e0
        · next y hy => exact snd_step X hd hlen hex h54 hy X.2.2.2.2.2.2.2.2.1.1 X.2.2.2.2.2.2.2.2.1.2 hcn hnn (fun h1 h2 => ih y e0 h1 h2)
        · next o' hy =>
          cases e0
          exact snd_ret hd hlen hex hy hcn hnn hend
theorem lv_args_in {as : List Value} (hc : ∀ v ∈ as, v.category = 1) : ∀ (k i : Nat) (v : Value), as[i]? = some v → (k + i, v) ∈ lv_args k as := by
  induction as with
  | nil => intro k i v h; cases h
  | cons a t ih =>
    intro k i v h
    have ha : ¬ a.category = 2 := by rw [hc a List.mem_cons_self]; decide
    rw [lv_args, if_neg ha]
    cases i with
    | zero => cases h; exact List.mem_cons_self
    | succ i =>
      have := ih (fun v hv => hc v (List.mem_cons_of_mem _ hv)) (k + 1) i v h
      rw [show k + (i + 1) = k + 1 + i by omega]
      exact List.mem_cons_of_mem _ this
theorem lg_len {as : List Value} (hc : ∀ v ∈ as, v.category = 1) : (lg_sl as).length = as.length := by
  induction as with
  | nil => rfl
  | cons a t ih =>
    have ha : ¬ a.category = 2 := by rw [hc a List.mem_cons_self]; decide
    have := ih (fun v hv => hc v (List.mem_cons_of_mem _ hv))
    unfold lg_sl at this ⊢
    rw [List.flatMap_cons, if_neg ha]
    simp [this]
theorem entry_L {as : List Value} {n : Nat} (hc : ∀ v ∈ as, v.category = 1) (hn : as.length ≤ n) : qLr ((lg_sl as ++ List.replicate (n - (lg_sl as).length) Slot.unset).toArray) n (qpad as n) := by
  have h := lv_entry as (n := n) (by rw [lg_len hc]; exact hn)
  refine ⟨⟨h.1, h.2.1, fun q hq => ?_⟩, by unfold qpad; simp; omega, fun v hv => ?_⟩
  · obtain ⟨e1, e2⟩ := q_lv_of hq
    have hi : q.1 < as.length := by
      rcases Nat.lt_or_ge q.1 as.length with h1 | h1
      · exact h1
      · unfold qpad at e1
        rw [List.getElem?_append_right h1] at e1
        exact absurd (List.eq_of_mem_replicate (List.mem_of_getElem? e1)) e2
    unfold qpad at e1
    rw [List.getElem?_append_left hi] at e1
    have := lv_args_in hc 0 q.1 q.2 e1
    rw [Nat.zero_add] at this
    exact h.2.2 _ this
  · unfold qpad at hv
    rcases List.mem_append.mp hv with h1 | h1
    · exact hc v h1
    · rw [List.eq_of_mem_replicate h1]; rfl
theorem mo_some {i : Nat} (hi : i < q_lawId) : plainName (q_own i) = true ∧ (q_meth i).2.2.2.2.1 ≤ (q_meth i).2.2.1 := by
  have h := mo_all i hi
  unfold q_mo at h
  simp only [Bool.and_eq_true, Nat.ble_eq] at h
  exact ⟨h.1, h.2.2.2.2.2.2⟩
/-- THE METHODS: whatever the abstract machine answers, the method answers -/
theorem snd_ev (l : Launch) (D : va_G) (dA : Nat → ClassId) (fx : qFx) (hprim : ∀ d i as M o, i < q_lawId → ¬ q_pk i = 0 → as.length = (q_meth i).2.2.2.2.1 → q_prim i as M = some o → qMet l (d + 1) i as D dA fx M o) : ∀ (d G i : Nat) (as : List Value) (M : qM) (o : qOut), i < q_lawId → as.length = (q_meth i).2.2.2.2.1 → q_ev d G i as M = some o → qMet l d i as D dA fx M o := by
  intro d
  induction d with
  | zero => intro G i as M o _ _ e0; cases e0
  | succ d ih =>
    intro G i as M o hi hal e0
    unfold q_ev at e0
    split at e0
    · next hpk =>
      obtain ⟨hc, e0⟩ := qif_some e0
      obtain ⟨hplain, hmax⟩ := mo_some hi
      refine Met.ofW (cc := (q_meth i).2.1) (maxL := (q_meth i).2.2.1) (ret := (q_meth i).2.2.2.1) hplain rfl ?_
      intro p e s m args below meth c s₁ B hml hv
      obtain ⟨rfl, hRep, hK⟩ := hv
      have hts0 := atoms_spec (ws := qWS i) B.pre
      have hts : ∀ w ∈ qBIG, w.before as.toArray s = true := fun w hw => hts0 w (List.mem_cons_of_mem _ hw)
      have hown : s.vm.findClass (q_own i) = some m.cls := findClass_of_methodNamed B.named
      have hr := B.returns
      have hlocks := B.notSynchronized
      have X : qCx p (qRM (d + 1) i) s m as.toArray meth c d i D dA fx (qAf M) := ⟨B.exec, B.bytes, hml, hown, hts, hK, fun q hq => Or.inr (by rw [← hRep.1]; exact hq), ⟨Nat.le_refl _, Nat.le_refl _⟩, ⟨Nat.le_refl _, Nat.le_refl _⟩, fun hn => by rw [← hn]; exact (name_of_methodNamed B.named B.method).1⟩
      have hend : qEnd p l e (qRM (d + 1) i) s m as.toArray below meth c (MQ below (qQ D dA fx (qAf M) o) as.toArray s (q_meth i).2.2.2.2.2.2.1 (q_meth i).2.2.2.2.2.2.2 (qAf M)) i D dA fx (qAf M) o := by
        intro H locs ls pc cn nn h1 h2 h3 h4 h5 h6
        refine W.widen h4 h5 ?_
        have hq : ∀ t : State, t.heap = H → s.WarmedH t.vm → qQ D dA fx (qAf M) o as.toArray s (.returned o.1) t := fun t ht hW => ⟨rfl, by rw [ht]; exact h1, h3, h2.F ht⟩
        obtain ⟨v, M'⟩ := o
        match v, h6, hq with
        | none, h6, hq => exact W.vret B.exec B.bytes (hr.trans h6.2) hq h2.2.2 h6.1
        | some (.int v), h6, hq =>
          obtain ⟨h7, ty, h8, h9⟩ := h6
          exact W.zret B.exec B.bytes (hr.trans h8) h9 hq h2.2.2 h7
        | some (.ref v), h6, hq =>
          obtain ⟨h7, ty, h8, h9⟩ := h6
          exact W.aret B.exec B.bytes (hr.trans h8) h9 (Or.inr ⟨v, rfl⟩) hq h2.2.2 h7
      rw [lg_entry_eq]
      exact snd_run X (Nat.le_of_lt hi) hpk (fun j bs M' o' h1 h2 h3 => ih G j bs M' o' h1 h2 h3) hend G _ e0 (Nat.zero_le _) (Nat.zero_le _) s.heap [] _ ⟨hRep, va_S.rf, fun q h1 h6 => Or.inl ⟨h1, h6⟩, entry_L hc (by rw [hal]; exact hmax)⟩
    · next hpk => exact hprim d i as M o hi hpk hal e0
end QALL
