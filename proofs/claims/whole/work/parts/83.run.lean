/-! ===== calls, steps, runs ===== -/
section QRUN
variable {p : Program} {l : Launch} {e : Env} {R : Room} {s : State} {m : MethodId} {args : Array Value} {below : List Frame} {meth : Method} {c : Code} {Z : State → Prop} {dd id : Nat} {D : va_G} {dA : Nat → ClassId} {fx : qFx} {A : Nat → Prop}
variable {pc len a b w : Nat} {im : Int} {tl : List Nat} {L st : List Value} {cn nn : Nat} {M : qM} {y : qC} {mc ms : Nat}
theorem q_par {n : Nat} {P : Option MethodDescriptor} (h : P.map (fun d => d.parameters.length + 1) = some n) : P.map (fun d => d.parameters.length) = some (n - 1) := by
  cases P with
  | none => cases h
  | some d =>
    simp only [Option.map_some, Option.some.injEq] at h ⊢
    omega
theorem q_even {own : String} {op : qO} (h : q_mok own op = true) (e : op.2.2.2.1 % 2 = 0) : q_w (op.2.2.2.2.2.getD 0 0) (.methodLink own op.2.1 (q_meth op.2.2.1).1) = true := by
  unfold q_mok at h
  rw [if_pos e] at h
  exact h
theorem q_odd {own : String} {op : qO} (h : q_mok own op = true) (e : ¬ op.2.2.2.1 % 2 = 0) : q_wn (op.2.2.2.2.2.getD 0 0) (.methodLinkNest own op.2.1 (q_meth op.2.2.1).1 "NailedYears") = true := by
  unfold q_mok at h
  rw [if_neg e] at h
  exact h
theorem s_call {o : qOut} {H : Heap} {locs : List Loc} {ls : Array Slot} {rest as : List Value} (X : qCx p R s m args meth c dd id D dA fx A) (S : qSt s A H locs ls id D dA fx L M) (hb : b < q_lawId) (hmok : q_mok (q_own id) (54, a, b, w, im, tl) = true)
    (hform : (w = 0 ∨ w = 1) ∧ q_mkind b = 0 ∨ (w = 2 ∨ w = 3) ∧ q_mkind b = 1 ∨ (w = 4 ∨ w = 5) ∧ q_mkind b = 2) (hl : as.length = (q_meth b).2.2.2.2.1) (hrest : rest.length ≤ 4) (hrcv : q_rcv b as M) (hc : cn + (q_meth b).2.2.2.2.2.2.1 ≤ R.cells) (hs : nn + (q_meth b).2.2.2.2.2.2.2 ≤ R.slots)
    (hd : decode (q_meth id).2.1 pc = .ok (q_ins pc (54, a, b, w, im, tl), 3)) (hMet : qMet l dd b as D dA fx M o)
    (kk : qG p l e R s m args below meth c Z id D dA fx A (pc + 3, L, o.1.toList ++ rest, cn + (q_meth b).2.2.2.2.2.2.1, nn + (q_meth b).2.2.2.2.2.2.2, o.2)) : W p l e R s m args below meth c H locs cn nn Z (F0 m pc ls (as.reverse ++ rest)) := by
  obtain ⟨hx, hbb, hml, hown, hts, hK, hA0, ⟨hR1, hR2⟩, -⟩ := X
  have hRep := S.1
  have hls : ls.size = (q_meth id).2.2.1 := S.2.2.2.1.1
  have hmo := mo_all b hb
  unfold q_mo at hmo
  have hpre : ∀ U : State, U.heap = H → s.WarmedH U.vm → Rep D dA fx M U.heap ∧ qK D dA fx U := fun U hU hW => ⟨by rw [hU]; exact hRep, hK.moved hW⟩
  rcases hform with ⟨hw, hk⟩ | ⟨hw, hk⟩ | ⟨hw, hk⟩
  · rw [hk] at hmo
    simp only [Bool.and_eq_true, decide_eq_true_eq, Nat.ble_eq, Bool.not_eq_true', decide_eq_false_iff_not] at hmo
    obtain ⟨-, h1, h2, h3, ⟨h4, h5, h6, h7, -, h8⟩, h9, h10⟩ := hmo
    have hcode := q_w_in h1
    have hRm : (qRM dd b).frames + 1 ≤ R.frames ∧ 8 + ((q_meth b).2.2.1 + 11) + (qRM dd b).locals ≤ R.locals := ⟨hR1, by show _ + 40 * (dd + 4) ≤ _; omega⟩
    rcases hrcv with hr | ⟨r, hr, hq⟩
    · omega
    · cases as with
      | nil => cases hr
      | cons v As =>
        cases hr
        have hst : (Value.ref r :: As).reverse ++ rest = As.reverse ++ .ref r :: rest := by simp
        rw [hst]
        have hrecv : ∃ cellB : Cell, H[r]? = some cellB ∧ cellB.vm.isStatics = false ∧ s.vm.findClass (q_own b) = some cellB.cls := by
          have h11 := (hRep.2.1 r).1 (by rw [hq])
          rw [hq] at h11
          obtain ⟨h12, cell, g1, g2, g3, -⟩ := h11
          refine ⟨cell, g1, by rw [g3]; rfl, ?_⟩
          rw [g2, ← h7]
          exact (hK.1.1 _ _ (q_cl _ (by omega))).2.1
        have hn : As.length = (q_meth b).2.2.2.2.1 - 1 := by rw [← hl]; rfl
        rcases hw with rfl | rfl
        · have hlk : (Cond.methodLink (q_own id) a (q_meth b).1) ∈ qBIG := q_w_in (q_even hmok (by simp))
          exact s_after hA0 S (va_runV (As := As) (rest := rest) (b := r) (C := q_own b) ⟨hx, hbb, hml, hown, hts⟩ hMet ⟨callB_of ((q_meth b).2.2.2.2.1 - 1) hts (qGood hcode) rfl rfl rfl (hts _ (q_w_in h2)) (hts _ hlk) ⟨h3.1, h3.2, q_par h8⟩ hRm, hts _ (q_w_in h4), hts _ (q_w_in h5)⟩ ⟨qPc_blind, hrecv, fun U hU hW => ⟨rfl, hpre U hU hW⟩⟩ rfl hn hls rfl (lv_room (cat8 hrest)) hd ⟨hc, hs⟩) kk
        · have hlk : va_Nw (.methodLinkNest (q_own id) a (q_meth b).1 "NailedYears") s := hK.2.2.2.2.1 _ (q_wn_in (q_odd hmok (by simp)))
          exact s_after hA0 S (va_runVN (As := As) (rest := rest) (b := r) (C := q_own b) ⟨hx, hbb, hml, hown, hts⟩ hMet ⟨va_cnB ((q_meth b).2.2.2.2.1 - 1) hts (qGood hcode) rfl rfl rfl hlk (hts _ (q_w_in h2)) ⟨h3.1, h3.2, q_par h8⟩ hRm, hts _ (q_w_in h4), hts _ (q_w_in h5)⟩ ⟨qPc_blind, hrecv, fun U hU hW => ⟨rfl, hpre U hU hW⟩⟩ rfl hn hls rfl (lv_room (cat8 hrest)) hd ⟨hc, hs⟩) kk
  · rw [hk] at hmo
    simp only [Bool.and_eq_true, decide_eq_true_eq, Nat.ble_eq, Nat.beq_eq, Bool.not_eq_true', decide_eq_false_iff_not] at hmo
    obtain ⟨-, h1, h2, h3, ⟨h4, -, -, h8⟩, h9, h10⟩ := hmo
    have hcode := q_w_in h1
    have hRm : (qRM dd b).frames + 1 ≤ R.frames ∧ 8 + ((q_meth b).2.2.1 + 11) + (qRM dd b).locals ≤ R.locals := ⟨hR1, by show _ + 40 * (dd + 4) ≤ _; omega⟩
    rcases hw with rfl | rfl
    · have hlk : (Cond.methodLink (q_own id) a (q_meth b).1) ∈ qBIG := q_w_in (q_even hmok (by simp))
      exact s_after hA0 S (va_runS (As := as) (rest := rest) ⟨hx, hbb, hml, hown, hts⟩ hMet ⟨callB_of (q_meth b).2.2.2.2.1 hts (qGood hcode) rfl rfl rfl (hts _ (q_w_in h2)) (hts _ hlk) ⟨h3.1, h3.2, h8⟩ hRm, hts _ (q_w_in h4)⟩ ⟨qPc_blind, fun U hU hW => ⟨rfl, hpre U hU hW⟩⟩ rfl hl hls rfl (lv_room (cat8 hrest)) hd ⟨hc, hs⟩) kk
    · have hlk : va_Nw (.methodLinkNest (q_own id) a (q_meth b).1 "NailedYears") s := hK.2.2.2.2.1 _ (q_wn_in (q_odd hmok (by simp)))
      exact s_after hA0 S (va_runSN (As := as) (rest := rest) ⟨hx, hbb, hml, hown, hts⟩ hMet ⟨va_cnB (q_meth b).2.2.2.2.1 hts (qGood hcode) rfl rfl rfl hlk (hts _ (q_w_in h2)) ⟨h3.1, h3.2, h8⟩ hRm, hts _ (q_w_in h4), trivial⟩ ⟨qPc_blind, fun U hU hW => ⟨rfl, hpre U hU hW⟩⟩ rfl hl hls rfl (lv_room (cat8 hrest)) hd ⟨hc, hs⟩) kk
  · rw [hk] at hmo
    simp only [Bool.and_eq_true, decide_eq_true_eq, Nat.ble_eq] at hmo
    obtain ⟨-, h1, h2, h3, ⟨h4, h6, h7, hnm, hret, h8⟩, h9, h10⟩ := hmo
    have hcode := q_w_in h1
    have hRm : (qRM dd b).frames + 1 ≤ R.frames ∧ 8 + ((q_meth b).2.2.1 + 11) + (qRM dd b).locals ≤ R.locals := ⟨hR1, by show _ + 40 * (dd + 4) ≤ _; omega⟩
    have hws : qWS b = Cond.code (q_meth b).1 (q_meth b).2.1 (q_meth b).2.2.1 none :: qBIG := by unfold qWS; rw [hret]
    rcases hrcv with hr | ⟨r, hr, hq⟩
    · omega
    · cases as with
      | nil => cases hr
      | cons v As =>
        cases hr
        have hst : (Value.ref r :: As).reverse ++ rest = As.reverse ++ .ref r :: rest := by simp
        rw [hst]
        have hn : As.length = (q_meth b).2.2.2.2.1 - 1 := by rw [← hl]; rfl
        rcases hw with rfl | rfl
        · have hlk : (Cond.methodLink (q_own id) a (q_meth b).1) ∈ qBIG := q_w_in (q_even hmok (by simp))
          exact s_after hA0 S (va_runI (As := As) (rest := rest) (b := r) ⟨hx, hbb, hml, hown, hts⟩ hMet ⟨callB_of ((q_meth b).2.2.2.2.1 - 1) hts (qGood hcode) hws rfl rfl (hts _ (q_w_in h2)) (hts _ hlk) ⟨h3.1, h3.2, q_par h8⟩ hRm, hnm, hts _ (q_w_in h4)⟩ ⟨qPc_blind, fun U hU hW => ⟨rfl, hpre U hU hW⟩⟩ rfl hn hls rfl (lv_room (cat8 hrest)) hd ⟨hc, hs⟩) kk
        · have hlk : va_Nw (.methodLinkNest (q_own id) a (q_meth b).1 "NailedYears") s := hK.2.2.2.2.1 _ (q_wn_in (q_odd hmok (by simp)))
          exact s_after hA0 S (va_runIN (As := As) (rest := rest) (b := r) ⟨hx, hbb, hml, hown, hts⟩ hMet ⟨va_cnB ((q_meth b).2.2.2.2.1 - 1) hts (qGood hcode) hws rfl rfl hlk (hts _ (q_w_in h2)) ⟨h3.1, h3.2, q_par h8⟩ hRm, hnm, hts _ (q_w_in h4)⟩ ⟨qPc_blind, fun U hU hW => ⟨rfl, hpre U hU hW⟩⟩ rfl hn hls rfl (lv_room (cat8 hrest)) hd ⟨hc, hs⟩) kk
theorem nx_inv {r : Option (List Value)} (h : (Option.map (fun s' => (Sum.inl (pc + len, L, s', cn, nn, M) : qC ⊕ qOut)) r) = some (.inl y)) : ∃ s', r = some s' ∧ y = (pc + len, L, s', cn, nn, M) := by
  cases r with
  | none => cases h
  | some s' => exact ⟨s', rfl, (Sum.inl.inj (Option.some.inj h)).symm⟩
theorem jm_inv {x : qC} (h : (some (Sum.inl x) : qX) = some (.inl y)) : y = x := (Sum.inl.inj (Option.some.inj h)).symm
theorem bi_inv {f : Int32 → Int32 → Int32} {s t : List Value} (h : q_bi f s = some t) : ∃ u v r, s = .int v :: .int u :: r ∧ t = .int (f u v) :: r := by
  match s, h with
  | .int v :: .int u :: r, h => exact ⟨u, v, r, rfl, (Option.some.inj h).symm⟩
theorem bi2_inv {f : Int32 → Int32 → Option Int32} {s t : List Value} (h : q_bi2 f s = some t) : ∃ u v z r, s = .int v :: .int u :: r ∧ f u v = some z ∧ t = .int z :: r := by
  match s, h with
  | .int v :: .int u :: r, h =>
    have h : (f u v).map (fun z => Value.int z :: r) = some t := h
    cases hf : f u v with
    | none => rw [hf] at h; cases h
    | some z => rw [hf] at h; exact ⟨u, v, z, r, rfl, hf, (Option.some.inj h).symm⟩
theorem un_inv {f : Int32 → Int32} {s t : List Value} (h : q_un f s = some t) : ∃ u r, s = .int u :: r ∧ t = .int (f u) :: r := by
  match s, h with
  | .int u :: r, h => exact ⟨u, r, rfl, (Option.some.inj h).symm⟩
theorem ld_inv {k : Nat} {s t : List Value} (h : q_ld L k s = some t) : ∃ x, L[k]? = some (.int x) ∧ t = .int x :: s := by
  unfold q_ld at h
  split at h
  · next x e => exact ⟨x, e, (Option.some.inj h).symm⟩
  · cases h
theorem lda_inv {k : Nat} {s t : List Value} (h : q_lda L k s = some t) : ∃ x, L[k]? = some (.ref x) ∧ t = .ref x :: s := by
  unfold q_lda at h
  split at h
  · next x e => exact ⟨x, e, (Option.some.inj h).symm⟩
  · cases h
theorem fin4 {k : Nat} (h : Nat.ble k 3 = true) : ((Fin.ofNat 4 k : Fin 4) : Nat) = k := by
  have := Nat.le_of_ble_eq_true h
  show k % 4 = k
  omega
theorem qLr.lt {ls : Array Slot} {n : Nat} (h : qLr ls n L) {k : Nat} (hk : k < L.length) : k < n := by rw [← h.2.1]; exact hk
theorem tgt_eq {k : Nat} : ((pc : Nat) : Int) + ((k : Int) - (pc : Int)) = (k : Int) := by omega
theorem sw_get {l : List Nat} {y' : Nat} {x : Int32} {k pc : Nat} (h0 : ¬ x.toInt < 0) (h1 : ¬ (l.length : Int) ≤ x.toInt) (hk : l.getD x.toInt.toNat k = y') : (l.map fun (t : Nat) => (t : Int) - pc).toArray[(x.toInt - 0).toNat]? = some ((y' : Int) - pc) := by
  subst hk
  have h2 : x.toInt.toNat < l.length := by omega
  have h3 : l[x.toInt.toNat]? = some (l[x.toInt.toNat]) := List.getElem?_eq_getElem h2
  rw [Int.sub_zero, List.getElem?_toArray, List.getElem?_map, h3, List.getD_eq_getElem?_getD, h3]
  rfl
end QRUN
