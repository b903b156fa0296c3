/-! ===== every instruction that is no call ===== -/
section QSTEP
variable {p : Program} {l : Launch} {e : Env} {R : Room} {s : State} {m : MethodId} {args : Array Value} {below : List Frame} {meth : Method} {c : Code} {Z : State → Prop} {dd id : Nat} {D : va_G} {dA : Nat → ClassId} {fx : qFx} {A : Nat → Prop}
variable {pc len a b w : Nat} {im : Int} {tl : List Nat} {L st : List Value} {cn nn : Nat} {M : qM} {y : qC} {mc ms : Nat}
theorem qif_inl {P : Prop} {r : qX} (h : qif P r none = some (.inl y)) : P ∧ r = some (.inl y) := qif_some h
theorem le_of_not {x z : Int32} (h : ¬ x < z) : z ≤ x := by rw [Int32.lt_iff_toInt_lt] at h; rw [Int32.le_iff_toInt_le]; omega
theorem not_of_le {x z : Int32} (h : z ≤ x) : ¬ x < z := by rw [Int32.lt_iff_toInt_lt]; rw [Int32.le_iff_toInt_le] at h; omega
theorem lk_off {k1 t1 k2 t2 k3 t3 dft pc : Nat} {x : Int32} : Op.lookupswitch.offset [((k1 : Int), (t1 : Int) - pc), ((k2 : Int), (t2 : Int) - pc), ((k3 : Int), (t3 : Int) - pc)] ((dft : Int) - pc) x.toInt = ((qlk [k1, t1, k2, t2, k3, t3] dft x : Nat) : Int) - pc := by
  rw [Op.lookupswitch.offset_cons, Op.lookupswitch.offset_cons, Op.lookupswitch.offset_cons]
  show _ = (((if x.toInt = (k1 : Int) then t1 else if x.toInt = (k2 : Int) then t2 else if x.toInt = (k3 : Int) then t3 else dft : Nat)) : Int) - pc
  by_cases h1 : x.toInt = (k1 : Int)
  · rw [if_pos h1.symm, if_pos h1]
  · rw [if_neg (fun z => h1 z.symm), if_neg h1]
    by_cases h2 : x.toInt = (k2 : Int)
    · rw [if_pos h2.symm, if_pos h2]
    · rw [if_neg (fun z => h2 z.symm), if_neg h2]
      by_cases h3 : x.toInt = (k3 : Int)
      · rw [if_pos h3.symm, if_pos h3]
      · rw [if_neg (fun z => h3 z.symm), if_neg h3]
        first | rfl | simp [Op.lookupswitch.offset]
theorem snd_step {oc : Nat} (X : qCx p R s m args meth c dd id D dA fx A) (hd : decode (q_meth id).2.1 pc = .ok (q_ins pc (oc, a, b, w, im, tl), len)) (hlen : (Nat.beq (q_len oc) 0 || Nat.beq len (q_len oc)) = true) (hex : q_ex id (oc, a, b, w, im, tl) = true) (h54 : ¬ oc = 54)
    (e0 : q0 mc ms (oc, a, b, w, im, tl) len pc L st cn nn M = some (.inl y)) (hmc : mc ≤ R.cells) (hms : ms ≤ R.slots) (hcn : cn ≤ mc) (hnn : nn ≤ ms)
    (kk : y.2.2.2.1 ≤ mc → y.2.2.2.2.1 ≤ ms → qG p l e R s m args below meth c Z id D dA fx A y) : qG p l e R s m args below meth c Z id D dA fx A (pc, L, st, cn, nn, M) :=
  match oc, hd, hlen, hex, h54, e0 with
  | 0, hd, hlen, hex, h54, e0 => by
    obtain rfl := jm_inv e0
    obtain rfl : len = 1 := Nat.eq_of_beq_eq_true hlen
    intro H locs ls S
    exact lv_iconst X.1 X.2.1 hd rfl (kk hcn hnn H locs ls S)
  | 1, hd, hlen, hex, h54, e0 => by
    obtain rfl := jm_inv e0
    obtain rfl : len = 2 := Nat.eq_of_beq_eq_true hlen
    intro H locs ls S
    exact lv_bipush X.1 X.2.1 hd (of_decide_eq_true hex) (kk hcn hnn H locs ls S)
  | 2, hd, hlen, hex, h54, e0 => by
    obtain rfl := jm_inv e0
    obtain rfl : len = 3 := Nat.eq_of_beq_eq_true hlen
    intro H locs ls S
    exact lv_sipush X.1 X.2.1 hd (of_decide_eq_true hex) (kk hcn hnn H locs ls S)
  | 3, hd, hlen, hex, h54, e0 => by
    obtain rfl := jm_inv e0
    obtain rfl : len = 3 := Nat.eq_of_beq_eq_true hlen
    intro H locs ls S
    exact lv_ldcw X.1 X.2.1 X.2.2.2.1 (X.2.2.2.2.1 _ (q_w_in hex)) hd (kk hcn hnn H locs ls S)
  | 4, hd, hlen, hex, h54, e0 => by
    obtain rfl := jm_inv e0
    obtain rfl : len = 1 := Nat.eq_of_beq_eq_true hlen
    intro H locs ls S
    exact lv_lconst X.1 X.2.1 hd (of_decide_eq_true hex) (kk hcn hnn H locs ls S)
  | 5, hd, hlen, hex, h54, e0 => by
    obtain rfl := jm_inv e0
    obtain rfl : len = 3 := Nat.eq_of_beq_eq_true hlen
    intro H locs ls S
    exact lv_ldc2 X.1 X.2.1 X.2.2.2.1 (X.2.2.2.2.1 _ (q_w_in hex)) hd (kk hcn hnn H locs ls S)
  | 6, hd, hlen, hex, h54, e0 => by
    obtain ⟨s', h1, rfl⟩ := nx_inv e0
    obtain ⟨x, hx, rfl⟩ := ld_inv h1
    obtain rfl : len = 1 := Nat.eq_of_beq_eq_true hlen
    intro H locs ls S
    exact lv_iload_n X.1 X.2.1 hd (fin4 hex) (S.2.2.2.at hx (by intro z; cases z)) (kk hcn hnn H locs ls S)
  | 7, hd, hlen, hex, h54, e0 => by
    obtain ⟨s', h1, rfl⟩ := nx_inv e0
    obtain ⟨x, hx, rfl⟩ := ld_inv h1
    obtain rfl : len = 2 := Nat.eq_of_beq_eq_true hlen
    intro H locs ls S
    exact lv_iload X.1 X.2.1 hd (S.2.2.2.at hx (by intro z; cases z)) (kk hcn hnn H locs ls S)
  | 8, hd, hlen, hex, h54, e0 => by
    obtain ⟨s', h1, rfl⟩ := nx_inv e0
    obtain ⟨x, hx, rfl⟩ := lda_inv h1
    obtain rfl : len = 1 := Nat.eq_of_beq_eq_true hlen
    intro H locs ls S
    exact lv_aload_n X.1 X.2.1 hd (fin4 hex) (S.2.2.2.at hx (by intro z; cases z)) (kk hcn hnn H locs ls S)
  | 9, hd, hlen, hex, h54, e0 => by
    obtain ⟨s', h1, rfl⟩ := nx_inv e0
    obtain ⟨x, hx, rfl⟩ := lda_inv h1
    obtain rfl : len = 2 := Nat.eq_of_beq_eq_true hlen
    intro H locs ls S
    exact lv_aload X.1 X.2.1 hd (S.2.2.2.at hx (by intro z; cases z)) (kk hcn hnn H locs ls S)
  | 10, hd, hlen, hex, h54, e0 => by
    match st, e0 with
    | .int x :: r, e0 =>
      obtain ⟨hl, h1⟩ := qif_inl e0
      obtain rfl := jm_inv h1
      obtain rfl : len = 1 := Nat.eq_of_beq_eq_true hlen
      intro H locs ls S
      exact lv_istore_n (lv := q_lv L) X.1 X.2.1 hd (fin4 hex) S.2.2.2.1 (S.2.2.2.lt hl) rfl (fun ls' h' => kk hcn hnn H locs ls' ⟨S.1, S.2.1, S.2.2.1, S.2.2.2.put rfl h'⟩)
  | 11, hd, hlen, hex, h54, e0 => by
    match st, e0 with
    | .int x :: r, e0 =>
      obtain ⟨hl, h1⟩ := qif_inl e0
      obtain rfl := jm_inv h1
      obtain rfl : len = 2 := Nat.eq_of_beq_eq_true hlen
      intro H locs ls S
      exact lv_istore (lv := q_lv L) X.1 X.2.1 hd S.2.2.2.1 (S.2.2.2.lt hl) rfl (fun ls' h' => kk hcn hnn H locs ls' ⟨S.1, S.2.1, S.2.2.1, S.2.2.2.put rfl h'⟩)
  | 12, hd, hlen, hex, h54, e0 => by
    match st, e0 with
    | .ref x :: r, e0 =>
      obtain ⟨hl, h1⟩ := qif_inl e0
      obtain rfl := jm_inv h1
      obtain rfl : len = 1 := Nat.eq_of_beq_eq_true hlen
      intro H locs ls S
      exact lv_astore_n (lv := q_lv L) X.1 X.2.1 hd (fin4 hex) S.2.2.2.1 (S.2.2.2.lt hl) rfl (fun ls' h' => kk hcn hnn H locs ls' ⟨S.1, S.2.1, S.2.2.1, S.2.2.2.put rfl h'⟩)
  | 13, hd, hlen, hex, h54, e0 => by
    match st, e0 with
    | .ref x :: r, e0 =>
      obtain ⟨hl, h1⟩ := qif_inl e0
      obtain rfl := jm_inv h1
      obtain rfl : len = 2 := Nat.eq_of_beq_eq_true hlen
      intro H locs ls S
      exact lv_astore (lv := q_lv L) X.1 X.2.1 hd S.2.2.2.1 (S.2.2.2.lt hl) rfl (fun ls' h' => kk hcn hnn H locs ls' ⟨S.1, S.2.1, S.2.2.1, S.2.2.2.put rfl h'⟩)
  | 14, hd, hlen, hex, h54, e0 => by
    have e1 : (match (L[a]? : Option Value) with | some (.int x) => (some (.inl (pc + len, L.set a (.int (x + Int32.ofInt im)), st, cn, nn, M)) : qX) | _ => none) = some (.inl y) := e0
    split at e1
    · next x hx =>
      obtain rfl := jm_inv e1
      obtain rfl : len = 3 := Nat.eq_of_beq_eq_true hlen
      intro H locs ls S
      obtain ⟨k, hk⟩ := List.getElem?_of_mem (q_lv_in hx (by intro z; cases z))
      exact lv_iinc (lv := q_lv L) (k := k) X.1 X.2.1 hd S.2.2.2.1 hk rfl (S.2.2.2.lt (List.getElem?_eq_some_iff.mp hx).1) rfl (fun ls' h' => kk hcn hnn H locs ls' ⟨S.1, S.2.1, S.2.2.1, S.2.2.2.put rfl h'⟩)
    · cases e1
  | 15, hd, hlen, hex, h54, e0 => by
    obtain ⟨s', h1, rfl⟩ := nx_inv e0
    obtain ⟨u, v, r, rfl, rfl⟩ := bi_inv h1
    obtain rfl : len = 1 := Nat.eq_of_beq_eq_true hlen
    intro H locs ls S
    exact lv_iadd X.1 X.2.1 hd (kk hcn hnn H locs ls S)
  | 16, hd, hlen, hex, h54, e0 => by
    obtain ⟨s', h1, rfl⟩ := nx_inv e0
    obtain ⟨u, v, r, rfl, rfl⟩ := bi_inv h1
    obtain rfl : len = 1 := Nat.eq_of_beq_eq_true hlen
    intro H locs ls S
    exact lv_isub X.1 X.2.1 hd (kk hcn hnn H locs ls S)
  | 17, hd, hlen, hex, h54, e0 => by
    obtain ⟨s', h1, rfl⟩ := nx_inv e0
    obtain ⟨u, v, r, rfl, rfl⟩ := bi_inv h1
    obtain rfl : len = 1 := Nat.eq_of_beq_eq_true hlen
    intro H locs ls S
    exact lv_imul X.1 X.2.1 hd (kk hcn hnn H locs ls S)
  | 18, hd, hlen, hex, h54, e0 => by
    obtain ⟨s', h1, rfl⟩ := nx_inv e0
    obtain ⟨u, v, r, rfl, rfl⟩ := bi_inv h1
    obtain rfl : len = 1 := Nat.eq_of_beq_eq_true hlen
    intro H locs ls S
    exact lv_iand X.1 X.2.1 hd (kk hcn hnn H locs ls S)
  | 19, hd, hlen, hex, h54, e0 => by
    obtain ⟨s', h1, rfl⟩ := nx_inv e0
    obtain ⟨u, v, r, rfl, rfl⟩ := bi_inv h1
    obtain rfl : len = 1 := Nat.eq_of_beq_eq_true hlen
    intro H locs ls S
    exact lv_ior X.1 X.2.1 hd (kk hcn hnn H locs ls S)
  | 20, hd, hlen, hex, h54, e0 => by
    obtain ⟨s', h1, rfl⟩ := nx_inv e0
    obtain ⟨u, v, r, rfl, rfl⟩ := bi_inv h1
    obtain rfl : len = 1 := Nat.eq_of_beq_eq_true hlen
    intro H locs ls S
    exact lv_ixor X.1 X.2.1 hd (kk hcn hnn H locs ls S)
  | 21, hd, hlen, hex, h54, e0 => by
    obtain ⟨s', h1, rfl⟩ := nx_inv e0
    obtain ⟨u, v, r, rfl, rfl⟩ := bi_inv h1
    obtain rfl : len = 1 := Nat.eq_of_beq_eq_true hlen
    intro H locs ls S
    exact lv_ishl X.1 X.2.1 hd (kk hcn hnn H locs ls S)
  | 22, hd, hlen, hex, h54, e0 => by
    obtain ⟨s', h1, rfl⟩ := nx_inv e0
    obtain ⟨u, v, r, rfl, rfl⟩ := bi_inv h1
    obtain rfl : len = 1 := Nat.eq_of_beq_eq_true hlen
    intro H locs ls S
    exact lv_ishr X.1 X.2.1 hd (kk hcn hnn H locs ls S)
  | 23, hd, hlen, hex, h54, e0 => by
    obtain ⟨s', h1, rfl⟩ := nx_inv e0
    obtain ⟨u, v, r, rfl, rfl⟩ := bi_inv h1
    obtain rfl : len = 1 := Nat.eq_of_beq_eq_true hlen
    intro H locs ls S
    exact lv_iushr X.1 X.2.1 hd rfl (kk hcn hnn H locs ls S)
  | 24, hd, hlen, hex, h54, e0 => by
    obtain ⟨s', h1, rfl⟩ := nx_inv e0
    obtain ⟨u, v, z, r, rfl, hz, rfl⟩ := bi2_inv h1
    obtain rfl : len = 1 := Nat.eq_of_beq_eq_true hlen
    by_cases h0 : v = 0
    · rw [if_pos h0] at hz; cases hz
    · rw [if_neg h0] at hz
      cases hz
      intro H locs ls S
      exact lv_idiv X.1 X.2.1 hd h0 (kk hcn hnn H locs ls S)
  | 25, hd, hlen, hex, h54, e0 => by
    obtain ⟨s', h1, rfl⟩ := nx_inv e0
    obtain ⟨u, v, z, r, rfl, hz, rfl⟩ := bi2_inv h1
    obtain rfl : len = 1 := Nat.eq_of_beq_eq_true hlen
    by_cases h0 : v = 0
    · rw [if_pos h0] at hz; cases hz
    · rw [if_neg h0] at hz
      cases hz
      intro H locs ls S
      exact lv_irem X.1 X.2.1 hd h0 (kk hcn hnn H locs ls S)
  | 26, hd, hlen, hex, h54, e0 => by
    match st, e0 with
    | .int x :: r, e0 =>
      obtain rfl := jm_inv e0
      obtain rfl : len = 1 := Nat.eq_of_beq_eq_true hlen
      intro H locs ls S
      exact lv_i2l X.1 X.2.1 hd rfl (kk hcn hnn H locs ls S)
  | 27, hd, hlen, hex, h54, e0 => by
    obtain ⟨s', h1, rfl⟩ := nx_inv e0
    obtain ⟨u, r, rfl, rfl⟩ := un_inv h1
    obtain rfl : len = 1 := Nat.eq_of_beq_eq_true hlen
    intro H locs ls S
    exact lv_i2b X.1 X.2.1 hd rfl (kk hcn hnn H locs ls S)
  | 64, hd, hlen, hex, h54, e0 => by
    obtain ⟨s', h1, rfl⟩ := nx_inv e0
    obtain ⟨u, r, rfl, rfl⟩ := un_inv h1
    obtain rfl : len = 1 := Nat.eq_of_beq_eq_true hlen
    intro H locs ls S
    exact lv_ineg X.1 X.2.1 hd (kk hcn hnn H locs ls S)
  | 28, hd, hlen, hex, h54, e0 => by
    match st, e0 with
    | v :: r, e0 =>
      obtain ⟨hv, h1⟩ := qif_inl e0
      obtain ⟨s', h1, rfl⟩ := nx_inv h1
      cases h1
      obtain rfl : len = 1 := Nat.eq_of_beq_eq_true hlen
      intro H locs ls S
      exact lv_dup X.1 X.2.1 hd hv (kk hcn hnn H locs ls S)
  | 29, hd, hlen, hex, h54, e0 => by
    match st, e0 with
    | v :: r, e0 =>
      obtain ⟨hv, h1⟩ := qif_inl e0
      obtain ⟨s', h1, rfl⟩ := nx_inv h1
      cases h1
      obtain rfl : len = 1 := Nat.eq_of_beq_eq_true hlen
      intro H locs ls S
      exact lv_pop X.1 X.2.1 hd hv (kk hcn hnn H locs ls S)
  | 30, hd, hlen, hex, h54, e0 => by
    match st, e0 with
    | v :: u :: r, e0 =>
      obtain ⟨hv, h1⟩ := qif_inl e0
      obtain ⟨s', h1, rfl⟩ := nx_inv h1
      cases h1
      obtain rfl : len = 1 := Nat.eq_of_beq_eq_true hlen
      intro H locs ls S
      exact lv_dup2_11 X.1 X.2.1 hd hv.1 hv.2 (kk hcn hnn H locs ls S)
  | 31, hd, hlen, hex, h54, e0 => by
    obtain rfl := jm_inv e0
    obtain rfl : len = 3 := Nat.eq_of_beq_eq_true hlen
    intro H locs ls S
    exact lv_goto X.1 X.2.1 hd tgt_eq (kk hcn hnn H locs ls S)
  | 32, hd, hlen, hex, h54, e0 => by
    match st, e0 with
    | .int v :: .int u :: r, e0 =>
      obtain rfl := jm_inv e0
      obtain rfl : len = 3 := Nat.eq_of_beq_eq_true hlen
      have hb5 := Nat.le_of_ble_eq_true hex
      intro H locs ls S
      rcases (show b = 0 ∨ b = 1 ∨ b = 2 ∨ b = 3 ∨ b = 4 ∨ b = 5 from by dsimp only at hb5; omega) with rfl | rfl | rfl | rfl | rfl | rfl
      · refine lv_icmp_eq X.1 X.2.1 hd tgt_eq (fun h => ?_) (fun h => ?_)
        · have h9 : qcmp 0 u v = true := by simp [qcmp, h]
          have k9 := kk hcn hnn
          rw [if_pos h9] at k9
          exact k9 H locs ls S
        · have h9 : ¬ qcmp 0 u v = true := by simp [qcmp, h]
          have k9 := kk hcn hnn
          rw [if_neg h9] at k9
          exact k9 H locs ls S
      · refine lv_icmp_ne X.1 X.2.1 hd tgt_eq (fun h => ?_) (fun h => ?_)
        · have h9 : qcmp 1 u v = true := by simp [qcmp, h]
          have k9 := kk hcn hnn
          rw [if_pos h9] at k9
          exact k9 H locs ls S
        · have h9 : ¬ qcmp 1 u v = true := by simp [qcmp, h]
          have k9 := kk hcn hnn
          rw [if_neg h9] at k9
          exact k9 H locs ls S
      · refine lv_icmp_lt X.1 X.2.1 hd tgt_eq (fun h => ?_) (fun h => ?_)
        · have h9 : qcmp 2 u v = true := by exact decide_eq_true h
          have k9 := kk hcn hnn
          rw [if_pos h9] at k9
          exact k9 H locs ls S
        · have h9 : ¬ qcmp 2 u v = true := by exact fun z => h (of_decide_eq_true z)
          have k9 := kk hcn hnn
          rw [if_neg h9] at k9
          exact k9 H locs ls S
      · refine lv_icmp_ge X.1 X.2.1 hd tgt_eq (fun h => ?_) (fun h => ?_)
        · have h9 : qcmp 3 u v = true := by simp [qcmp, not_of_le h]
          have k9 := kk hcn hnn
          rw [if_pos h9] at k9
          exact k9 H locs ls S
        · have h9 : ¬ qcmp 3 u v = true := by intro z; exact h (le_of_not (by simpa [qcmp] using z))
          have k9 := kk hcn hnn
          rw [if_neg h9] at k9
          exact k9 H locs ls S
      · refine lv_icmp_gt X.1 X.2.1 hd tgt_eq (fun h => ?_) (fun h => ?_)
        · have h9 : qcmp 4 u v = true := by exact decide_eq_true h
          have k9 := kk hcn hnn
          rw [if_pos h9] at k9
          exact k9 H locs ls S
        · have h9 : ¬ qcmp 4 u v = true := by exact fun z => h (of_decide_eq_true z)
          have k9 := kk hcn hnn
          rw [if_neg h9] at k9
          exact k9 H locs ls S
      · refine lv_icmp_le X.1 X.2.1 hd tgt_eq (fun h => ?_) (fun h => ?_)
        · have h9 : qcmp 5 u v = true := by simp [qcmp, not_of_le h]
          have k9 := kk hcn hnn
          rw [if_pos h9] at k9
          exact k9 H locs ls S
        · have h9 : ¬ qcmp 5 u v = true := by intro z; exact h (le_of_not (by simpa [qcmp] using z))
          have k9 := kk hcn hnn
          rw [if_neg h9] at k9
          exact k9 H locs ls S
  | 33, hd, hlen, hex, h54, e0 => by
    match st, e0 with
    | .int u :: r, e0 =>
      obtain rfl := jm_inv e0
      obtain rfl : len = 3 := Nat.eq_of_beq_eq_true hlen
      have hb5 := Nat.le_of_ble_eq_true hex
      intro H locs ls S
      rcases (show b = 0 ∨ b = 1 ∨ b = 2 ∨ b = 3 ∨ b = 4 ∨ b = 5 from by dsimp only at hb5; omega) with rfl | rfl | rfl | rfl | rfl | rfl
      · refine lv_if_eq X.1 X.2.1 hd tgt_eq (fun h => ?_) (fun h => ?_)
        · have h9 : qcmp 0 u 0 = true := by simp [qcmp, h]
          have k9 := kk hcn hnn
          rw [if_pos h9] at k9
          exact k9 H locs ls S
        · have h9 : ¬ qcmp 0 u 0 = true := by simp [qcmp, h]
          have k9 := kk hcn hnn
          rw [if_neg h9] at k9
          exact k9 H locs ls S
      · refine lv_if_ne X.1 X.2.1 hd tgt_eq (fun h => ?_) (fun h => ?_)
        · have h9 : qcmp 1 u 0 = true := by simp [qcmp, h]
          have k9 := kk hcn hnn
          rw [if_pos h9] at k9
          exact k9 H locs ls S
        · have h9 : ¬ qcmp 1 u 0 = true := by simp [qcmp, h]
          have k9 := kk hcn hnn
          rw [if_neg h9] at k9
          exact k9 H locs ls S
      · refine lv_if_lt X.1 X.2.1 hd tgt_eq (fun h => ?_) (fun h => ?_)
        · have h9 : qcmp 2 u 0 = true := by exact decide_eq_true h
          have k9 := kk hcn hnn
          rw [if_pos h9] at k9
          exact k9 H locs ls S
        · have h9 : ¬ qcmp 2 u 0 = true := by exact fun z => h (of_decide_eq_true z)
          have k9 := kk hcn hnn
          rw [if_neg h9] at k9
          exact k9 H locs ls S
      · refine lv_if_ge X.1 X.2.1 hd tgt_eq (fun h => ?_) (fun h => ?_)
        · have h9 : qcmp 3 u 0 = true := by simp [qcmp, not_of_le h]
          have k9 := kk hcn hnn
          rw [if_pos h9] at k9
          exact k9 H locs ls S
        · have h9 : ¬ qcmp 3 u 0 = true := by intro z; exact h (le_of_not (by simpa [qcmp] using z))
          have k9 := kk hcn hnn
          rw [if_neg h9] at k9
          exact k9 H locs ls S
      · refine lv_if_gt X.1 X.2.1 hd tgt_eq (fun h => ?_) (fun h => ?_)
        · have h9 : qcmp 4 u 0 = true := by exact decide_eq_true h
          have k9 := kk hcn hnn
          rw [if_pos h9] at k9
          exact k9 H locs ls S
        · have h9 : ¬ qcmp 4 u 0 = true := by exact fun z => h (of_decide_eq_true z)
          have k9 := kk hcn hnn
          rw [if_neg h9] at k9
          exact k9 H locs ls S
      · refine lv_if_le X.1 X.2.1 hd tgt_eq (fun h => ?_) (fun h => ?_)
        · have h9 : qcmp 5 u 0 = true := by simp [qcmp, not_of_le h]
          have k9 := kk hcn hnn
          rw [if_pos h9] at k9
          exact k9 H locs ls S
        · have h9 : ¬ qcmp 5 u 0 = true := by intro z; exact h (le_of_not (by simpa [qcmp] using z))
          have k9 := kk hcn hnn
          rw [if_neg h9] at k9
          exact k9 H locs ls S
  | 34, hd, hlen, hex, h54, e0 => by
    match st, e0 with
    | .ref r0 :: r, e0 =>
      obtain rfl := jm_inv e0
      obtain rfl : len = 3 := Nat.eq_of_beq_eq_true hlen
      intro H locs ls S
      exact lv_ifnull X.1 X.2.1 hd (kk hcn hnn H locs ls S)
  | 35, hd, hlen, hex, h54, e0 => by
    match st, e0 with
    | .ref r0 :: r, e0 =>
      obtain rfl := jm_inv e0
      obtain rfl : len = 3 := Nat.eq_of_beq_eq_true hlen
      intro H locs ls S
      exact lv_ifnonnull X.1 X.2.1 hd tgt_eq (kk hcn hnn H locs ls S)
  | 36, hd, hlen, hex, h54, e0 => by
    match st, e0 with
    | .int x :: r, e0 =>
      obtain rfl := jm_inv e0
      intro H locs ls S
      have k9 := kk hcn hnn H locs ls S
      dsimp only at k9
      by_cases h0 : x.toInt < 0
      · refine lv_tableOut X.1 X.2.1 hd (Or.inl h0) tgt_eq ?_
        unfold qsw at k9
        rw [if_pos h0] at k9
        exact k9
      · by_cases h1 : (tl.length : Int) ≤ x.toInt
        · refine lv_tableOut X.1 X.2.1 hd (Or.inr (show ((tl.length : Int) - 1) < x.toInt by omega)) tgt_eq ?_
          unfold qsw at k9
          rw [if_neg h0, if_pos h1] at k9
          exact k9
        · refine lv_tableIn (tgt := tl.getD x.toInt.toNat a) X.1 X.2.1 hd h0 (show ¬ ((tl.length : Int) - 1) < x.toInt by omega) (sw_get (k := a) (y' := tl.getD x.toInt.toNat a) h0 h1 rfl) tgt_eq ?_
          unfold qsw at k9
          rw [if_neg h0, if_neg h1] at k9
          exact k9
  | 37, hd, hlen, hex, h54, e0 => by
    match st, e0 with
    | .int x :: r, e0 =>
      obtain rfl := jm_inv e0
      intro H locs ls S
      have k9 := kk hcn hnn H locs ls S
      match tl, hd, hex, k9 with
      | [k1, t1, k2, t2, k3, t3], hd, hex, k9 =>
        have h9 : (Nat.ble (k1 + 1) k2 && Nat.ble (k2 + 1) k3) = true := hex
        rw [Bool.and_eq_true] at h9
        have h1 := Nat.le_of_ble_eq_true h9.1
        have h2 := Nat.le_of_ble_eq_true h9.2
        exact lv_lookup X.1 X.2.1 hd (by simp; omega) lk_off tgt_eq k9
  | 38, hd, hlen, hex, h54, e0 => by
    match st, e0 with
    | .ref r0 :: r, e0 =>
      obtain ⟨hs, h1⟩ := qif_inl e0
      obtain ⟨s', h1, rfl⟩ := nx_inv h1
      cases h1
      obtain rfl : len = 3 := Nat.eq_of_beq_eq_true hlen
      have hx : (Nat.ble (b + 1) 9 && (Nat.ble (w + 1) (q_cN b) && (Nat.ble (q_fk (q_cty b w)) 1 && q_fok (q_own id) (38, a, b, w, im, tl)))) = true := hex
      simp only [Bool.and_eq_true, Nat.ble_eq] at hx
      intro H locs ls S
      refine s_get X S.1 hs (show w < q_cN b by omega) hx.2.2.2 hd ?_
      rw [q_fv, if_neg (show ¬ q_fk (q_cty b w) = 2 by omega)]
      exact kk hcn hnn H locs ls S
  | 39, hd, hlen, hex, h54, e0 => by
    match st, e0 with
    | .ref r0 :: r, e0 =>
      obtain ⟨hs, h1⟩ := qif_inl e0
      obtain ⟨s', h1, rfl⟩ := nx_inv h1
      cases h1
      obtain rfl : len = 3 := Nat.eq_of_beq_eq_true hlen
      have hx : (Nat.ble (b + 1) 9 && (Nat.ble (w + 1) (q_cN b) && (Nat.beq (q_fk (q_cty b w)) 2 && q_fok (q_own id) (39, a, b, w, im, tl)))) = true := hex
      simp only [Bool.and_eq_true, Nat.ble_eq, Nat.beq_eq] at hx
      intro H locs ls S
      refine s_get X S.1 hs (show w < q_cN b by omega) hx.2.2.2 hd ?_
      rw [q_fv, if_pos hx.2.2.1]
      exact kk hcn hnn H locs ls S
  | 40, hd, hlen, hex, h54, e0 => by
    match st, e0 with
    | .int x :: .ref r0 :: r, e0 =>
      obtain ⟨hs, h1⟩ := qif_inl e0
      obtain rfl := jm_inv h1
      obtain rfl : len = 3 := Nat.eq_of_beq_eq_true hlen
      have hx : (Nat.ble (b + 1) 9 && (Nat.ble (w + 1) (q_cN b) && (Nat.beq (q_fk (q_cty b w)) 0 && (!(q_cT b w).2.2.2 && q_fok (q_own id) (40, a, b, w, im, tl))))) = true := hex
      simp only [Bool.and_eq_true, Nat.ble_eq, Nat.beq_eq, Bool.not_eq_true'] at hx
      intro H locs ls S
      exact s_put X S hs (show w < q_cN b by omega) hx.2.2.2.1 (Or.inl (fk0 hx.2.2.1)) hx.2.2.2.2 hd (kk hcn hnn)
  | 41, hd, hlen, hex, h54, e0 => by
    match st, e0 with
    | .int x :: .ref r0 :: r, e0 =>
      obtain ⟨hs, h1⟩ := qif_inl e0
      obtain rfl := jm_inv h1
      obtain rfl : len = 3 := Nat.eq_of_beq_eq_true hlen
      have hx : (Nat.ble (b + 1) 9 && (Nat.ble (w + 1) (q_cN b) && (Nat.beq (q_fk (q_cty b w)) 1 && (!(q_cT b w).2.2.2 && q_fok (q_own id) (41, a, b, w, im, tl))))) = true := hex
      simp only [Bool.and_eq_true, Nat.ble_eq, Nat.beq_eq, Bool.not_eq_true'] at hx
      intro H locs ls S
      exact s_put X S hs.1 (show w < q_cN b by omega) hx.2.2.2.1 (Or.inr ⟨fk1 hx.2.2.1, hs.2⟩) hx.2.2.2.2 hd (kk hcn hnn)
  | 42, hd, hlen, hex, h54, e0 => by
    match st, e0 with
    | .ref q9 :: .ref r0 :: r, e0 =>
      obtain ⟨hs, h1⟩ := qif_inl e0
      obtain rfl := jm_inv h1
      obtain rfl : len = 3 := Nat.eq_of_beq_eq_true hlen
      have hx : (Nat.ble (b + 1) 9 && (Nat.ble (w + 1) (q_cN b) && (Nat.beq (q_fk (q_cty b w)) 2 && ((q_cT b w).2.2.2 && (decide (im = 0) && (decide ((q_meth id).1.name = "<init>") && (decide ((q_cT b w).1 = q_own id) && q_fok (q_own id) (42, a, b, w, im, tl)))))))) = true := hex
      simp only [Bool.and_eq_true, Nat.ble_eq, Nat.beq_eq, decide_eq_true_eq] at hx
      obtain ⟨h1, h2, h3, h4, h5, h6, h7, h8⟩ := hx
      intro H locs ls S
      exact s_putF X S hs (show w < q_cN b by omega) h4 h3 h5 h6 h7 h8 hd (kk hcn hnn)
  | 43, hd, hlen, hex, h54, e0 => by
    match st, e0 with
    | .int i :: .ref r0 :: r, e0 =>
      obtain ⟨hs, h1⟩ := qif_inl e0
      obtain ⟨s', h1, rfl⟩ := nx_inv h1
      cases h1
      obtain rfl : len = 1 := Nat.eq_of_beq_eq_true hlen
      intro H locs ls S
      exact s_iald X S.1 hs.1 hs.2 hd (kk hcn hnn H locs ls S)
  | 45, hd, hlen, hex, h54, e0 => by
    match st, e0 with
    | .int i :: .ref r0 :: r, e0 =>
      obtain ⟨hs, h1⟩ := qif_inl e0
      obtain ⟨s', h1, rfl⟩ := nx_inv h1
      cases h1
      obtain rfl : len = 1 := Nat.eq_of_beq_eq_true hlen
      intro H locs ls S
      exact s_bald X S.1 hs.1 hs.2 hd (kk hcn hnn H locs ls S)
  | 47, hd, hlen, hex, h54, e0 => by
    match st, e0 with
    | .int i :: .ref r0 :: r, e0 =>
      obtain ⟨hs, h1⟩ := qif_inl e0
      obtain ⟨s', h1, rfl⟩ := nx_inv h1
      cases h1
      obtain rfl : len = 1 := Nat.eq_of_beq_eq_true hlen
      intro H locs ls S
      exact s_aald X S.1 hs.1 hs.2 hd (kk hcn hnn H locs ls S)
  | 44, hd, hlen, hex, h54, e0 => by
    match st, e0 with
    | .int x :: .int i :: .ref r0 :: r, e0 =>
      obtain ⟨hs, h1⟩ := qif_inl e0
      obtain rfl := jm_inv h1
      obtain rfl : len = 1 := Nat.eq_of_beq_eq_true hlen
      intro H locs ls S
      exact s_iast X S hs.1 hs.2 hd (kk hcn hnn)
  | 46, hd, hlen, hex, h54, e0 => by
    match st, e0 with
    | .int x :: .int i :: .ref r0 :: r, e0 =>
      obtain ⟨hs, h1⟩ := qif_inl e0
      obtain rfl := jm_inv h1
      obtain rfl : len = 1 := Nat.eq_of_beq_eq_true hlen
      intro H locs ls S
      exact s_bast X S hs.1 hs.2 hd (kk hcn hnn)
  | 48, hd, hlen, hex, h54, e0 => by
    match st, e0 with
    | .ref x :: .int i :: .ref r0 :: r, e0 =>
      obtain ⟨hs, h1⟩ := qif_inl e0
      obtain rfl := jm_inv h1
      obtain rfl : len = 1 := Nat.eq_of_beq_eq_true hlen
      intro H locs ls S
      exact s_aast X S hs.1 hs.2 hd (kk hcn hnn)
  | 49, hd, hlen, hex, h54, e0 => by
    match st, e0 with
    | .ref r0 :: r, e0 =>
      obtain ⟨hs, h1⟩ := qif_inl e0
      obtain ⟨s', h1, rfl⟩ := nx_inv h1
      cases h1
      obtain rfl : len = 1 := Nat.eq_of_beq_eq_true hlen
      intro H locs ls S
      exact s_alen X S.1 hs.1 hs.2 hd (kk hcn hnn H locs ls S)
  | 50, hd, hlen, hex, h54, e0 => by
    obtain ⟨hs, h1⟩ := qif_inl e0
    obtain rfl := jm_inv h1
    obtain rfl : len = 3 := Nat.eq_of_beq_eq_true hlen
    have hx : (Nat.ble (b + 1) 9 && (Nat.beq w (q_cN b) && (q_w (q_p tl 0) (.classLink (q_own id) a (q_cR b)) && (q_w (q_p tl 1) (.instantiable (q_cR b) (q_cN b)) && q_w (q_p tl 2) (.initialized (q_cR b)))))) = true := hex
    simp only [Bool.and_eq_true, Nat.ble_eq, Nat.beq_eq] at hx
    obtain ⟨g1, g2, g3, g4, g5⟩ := hx
    have hs1 : cn + 1 ≤ mc := hs.1
    have hs2 : nn + w ≤ ms := hs.2
    intro H locs ls S
    exact s_new X S (by omega) g2 (q_w_in g3) (q_w_in g4) (q_w_in g5) (Nat.le_trans hs1 hmc) (Nat.le_trans hs2 hms) hd (kk hs1 hs2)
  | 51, hd, hlen, hex, h54, e0 => by
    match st, e0 with
    | .int k :: r, e0 =>
      obtain ⟨hs, h1⟩ := qif_inl e0
      obtain rfl := jm_inv h1
      obtain rfl : len = 2 := Nat.eq_of_beq_eq_true hlen
      have hx : (Nat.beq b 2 || Nat.beq b 3) = true := hex
      simp only [Bool.or_eq_true, Nat.beq_eq] at hx
      intro H locs ls S
      exact s_newa X S hx hs.1 (Nat.le_trans hs.2.1 hmc) (Nat.le_trans hs.2.2 hms) hd (kk hs.2.1 hs.2.2)
  | 52, hd, hlen, hex, h54, e0 => by
    match st, e0 with
    | .int k :: r, e0 =>
      obtain ⟨hs, h1⟩ := qif_inl e0
      obtain rfl := jm_inv h1
      obtain rfl : len = 3 := Nat.eq_of_beq_eq_true hlen
      have hx : ((Nat.beq b 4 && q_w (q_p tl 0) (.classLink (q_own id) a "NailedYears$Nail")) || (Nat.beq b 5 && q_w (q_p tl 0) (.classLink (q_own id) a "NailedYears$Wall"))) = true := hex
      simp only [Bool.or_eq_true, Bool.and_eq_true, Nat.beq_eq] at hx
      intro H locs ls S
      exact s_newq X S (hx.imp (fun h => ⟨h.1, q_w_in h.2⟩) (fun h => ⟨h.1, q_w_in h.2⟩)) hs.1 (Nat.le_trans hs.2.1 hmc) (Nat.le_trans hs.2.2 hms) hd (kk hs.2.1 hs.2.2)
  | 53, hd, hlen, hex, h54, e0 => by
    match st, e0 with
    | .int k :: .int i :: r, e0 =>
      obtain ⟨hs, h1⟩ := qif_inl e0
      obtain rfl := jm_inv h1
      obtain rfl : len = 4 := Nat.eq_of_beq_eq_true hlen
      intro H locs ls S
      exact s_newm X S (q_w_in hex) hs.1 hs.2.1 (Nat.le_trans hs.2.2.1 hmc) (Nat.le_trans hs.2.2.2 hms) hd (kk (by have := hs.2.2.1; dsimp only; omega) (by have := hs.2.2.2; dsimp only; omega))
  | 54, hd, hlen, hex, h54, e0 => by
    exact absurd rfl h54
  | 55, hd, hlen, hex, h54, e0 => by
    match st, e0 with
    | .int x :: [], e0 => cases e0
  | 56, hd, hlen, hex, h54, e0 => by
    match st, e0 with
    | [], e0 => cases e0
  | 57, hd, hlen, hex, h54, e0 => by
    match st, e0 with
    | .ref x :: [], e0 => cases e0
  | 62, hd, hlen, hex, h54, e0 => by
    match st, e0 with
    | .int x :: [], e0 =>
      obtain ⟨hs, h1⟩ := qif_inl e0
      cases h1
  | 58, hd, hlen, hex, h54, e0 => by
    match st, e0 with
    | .ref x :: r, e0 =>
      obtain ⟨hs, h1⟩ := qif_inl e0
      obtain ⟨s', h1, rfl⟩ := nx_inv h1
      cases h1
      obtain rfl : len = 3 := Nat.eq_of_beq_eq_true hlen
      intro H locs ls S
      have hR := X.2.2.2.2.2.2.2.1
      exact W.objInit X.1 X.2.1 X.2.2.2.1 (X.2.2.2.2.1 _ (q_w_in hex)) (X.2.2.2.2.1 _ (q_w_in q_oi1)) (X.2.2.2.2.1 _ (q_w_in q_oi2)) rfl (by rw [X.2.2.1]; exact S.2.2.2.1.1) rfl hd (by omega) (by have := cat8 hs; show 2 * 0 + _ + 12 ≤ _; omega) (kk hcn hnn H locs ls S)
  | 59, hd, hlen, hex, h54, e0 => by
    obtain rfl := jm_inv e0
    obtain rfl : len = 3 := Nat.eq_of_beq_eq_true hlen
    intro H locs ls S
    have hR : qT M = fx.2.2 := S.1.2.2.2
    have hJ : qJ fx s := X.2.2.2.2.2.1.2.2.2.2.2.2
    have hx9 : (decide (a = 275) && decide (q_own id = "NailedYears")) = true := hex
    rw [Bool.and_eq_true, decide_eq_true_iff, decide_eq_true_iff] at hx9
    obtain ⟨rfl, ho⟩ := hx9
    have k9 := kk hcn hnn H locs ls S
    dsimp only at k9
    rw [hR] at k9
    exact q_ldcS X.1 X.2.1 (by rw [← ho]; exact X.2.2.2.1) hJ.1 hd k9
  | 60, hd, hlen, hex, h54, e0 => by
    match st, e0 with
    | .ref a9 :: r, e0 =>
      obtain ⟨⟨ha, hs⟩, h1⟩ := qif_inl e0
      obtain ⟨s', h1, rfl⟩ := nx_inv h1
      cases h1
      obtain rfl : len = 3 := Nat.eq_of_beq_eq_true hlen
      intro H locs ls S
      have hR : qT M = fx.2.2 := S.1.2.2.2
      obtain ⟨hJ1, sv, hJ⟩ : qJ fx s := X.2.2.2.2.2.1.2.2.2.2.2.2
      have hJH : qJF fx.2.2 sv s H := hJ.kept (fun a ha => (S.1.2.2.1 a ha).2)
      rw [ha, hR]
      have hRm := X.2.2.2.2.2.2.2.1
      have hts := X.2.2.2.2.1
      refine j_after (va_runV (As := []) (rest := r) (b := fx.2.2) (C := "java/lang/String") ⟨X.1, X.2.1, X.2.2.1, X.2.2.2.1, hts⟩ (j_len (sa := fx.2.2) (sv := sv) l) ⟨callB_of 0 hts (j_good jw_code_N) rfl rfl rfl (hts _ jw_in_S) (hts _ (q_w_in hex)) ⟨by decide, by decide, by decide +kernel⟩ ⟨by show 2 + 1 ≤ _; omega, by show 8 + (1 + 11) + 40 * 2 ≤ _; omega⟩, hts _ jw_im_N, hts _ jw_se_N⟩ ⟨j_blind, j_rcv hJH, fun U hU hW => ⟨rfl, by show qJF fx.2.2 sv U U.heap; rw [hU]; exact hJH.moved hW.alike⟩⟩ rfl rfl S.2.2.2.1.1 rfl (lv_room (cat8 hs)) hd ⟨Nat.le_trans hcn hmc, Nat.le_trans hnn hms⟩) ?_
      exact kk hcn hnn H locs ls S
  | 61, hd, hlen, hex, h54, e0 => by
    match st, e0 with
    | .int i9 :: .ref a9 :: r, e0 =>
      obtain ⟨⟨ha, hv9, hs⟩, h1⟩ := qif_inl e0
      obtain ⟨s', h1, rfl⟩ := nx_inv h1
      cases h1
      obtain rfl : len = 3 := Nat.eq_of_beq_eq_true hlen
      intro H locs ls S
      have hR : qT M = fx.2.2 := S.1.2.2.2
      obtain ⟨hJ1, sv, hJ⟩ : qJ fx s := X.2.2.2.2.2.1.2.2.2.2.2.2
      have hJH : qJF fx.2.2 sv s H := hJ.kept (fun a ha => (S.1.2.2.1 a ha).2)
      rw [ha, hR]
      have hRm := X.2.2.2.2.2.2.2.1
      have hts := X.2.2.2.2.1
      obtain ⟨n, hn, rfl⟩ := nI_of (fun h => hv9 (Or.inl h))
      have hlt : n < 82 := by
        have := Nat.not_le.mp fun q => hv9 (Or.inr q)
        rwa [nI_clamp hn] at this
      have k9 := kk hcn hnn H locs ls S
      dsimp only at k9
      rw [nI_clamp hn] at k9
      refine j_after (va_runV (As := [.int (nI n)]) (rest := r) (b := fx.2.2) (C := "java/lang/String") ⟨X.1, X.2.1, X.2.2.1, X.2.2.2.1, hts⟩ (j_cha (sa := fx.2.2) (sv := sv) l hlt) ⟨callB_of 1 hts (j_good jw_code_C) rfl rfl rfl (hts _ jw_in_S) (hts _ (q_w_in hex)) ⟨by decide, by decide, by decide +kernel⟩ ⟨by show 4 + 1 ≤ _; omega, by show 8 + (2 + 11) + 40 * 4 ≤ _; omega⟩, hts _ jw_im_C, hts _ jw_se_C⟩ ⟨j_blind, j_rcv hJH, fun U hU hW => ⟨rfl, by show qJF fx.2.2 sv U U.heap; rw [hU]; exact hJH.moved hW.alike⟩⟩ rfl rfl S.2.2.2.1.1 rfl (lv_room (cat8 hs)) hd ⟨Nat.le_trans hcn hmc, Nat.le_trans hnn hms⟩) ?_
      exact k9
  | 63, hd, hlen, hex, h54, e0 => by
    cases e0
  | 65, hd, hlen, hex, h54, e0 => by
    match st, e0 with
    | .int y9 :: .int x9 :: r, e0 =>
      obtain ⟨hs, h1⟩ := qif_inl e0
      obtain ⟨s', h1, rfl⟩ := nx_inv h1
      cases h1
      obtain rfl : len = 3 := Nat.eq_of_beq_eq_true hlen
      intro H locs ls S
      have hR := X.2.2.2.2.2.2.2.1
      exact va_mmax X.1 X.2.1 (X.2.2.1.trans S.2.2.2.1.1.symm) X.2.2.2.1 (X.2.2.2.2.1 _ (q_w_in hex)) (X.2.2.2.2.1 _ (q_w_in q_mx1)) (X.2.2.2.2.1 _ (q_w_in q_mi)) (X.2.2.2.2.1 _ (q_w_in q_mx2)) (by omega) (by have := cat8 hs; omega) (Nat.le_trans hcn hmc) (Nat.le_trans hnn hms) hd (kk hcn hnn H locs ls S)
  | 66, hd, hlen, hex, h54, e0 => by
    match st, e0 with
    | .int y9 :: .int x9 :: r, e0 =>
      obtain ⟨hs, h1⟩ := qif_inl e0
      obtain ⟨s', h1, rfl⟩ := nx_inv h1
      cases h1
      obtain rfl : len = 3 := Nat.eq_of_beq_eq_true hlen
      intro H locs ls S
      have hR := X.2.2.2.2.2.2.2.1
      exact va_mmin X.1 X.2.1 (X.2.2.1.trans S.2.2.2.1.1.symm) X.2.2.2.1 (X.2.2.2.2.1 _ (q_w_in hex)) (X.2.2.2.2.1 _ (q_w_in q_mn1)) (X.2.2.2.2.1 _ (q_w_in q_mi)) (X.2.2.2.2.1 _ (q_w_in q_mn2)) (by omega) (by have := cat8 hs; omega) (Nat.le_trans hcn hmc) (Nat.le_trans hnn hms) hd (kk hcn hnn H locs ls S)
  | 67, hd, hlen, hex, h54, e0 => by
    match st, e0 with
    | .int x9 :: r, e0 =>
      obtain ⟨hs, h1⟩ := qif_inl e0
      obtain ⟨s', h1, rfl⟩ := nx_inv h1
      cases h1
      obtain rfl : len = 3 := Nat.eq_of_beq_eq_true hlen
      intro H locs ls S
      have hR := X.2.2.2.2.2.2.2.1
      exact va_mabs X.1 X.2.1 (X.2.2.1.trans S.2.2.2.1.1.symm) X.2.2.2.1 (X.2.2.2.2.1 _ (q_w_in hex)) (X.2.2.2.2.1 _ (q_w_in q_ab1)) (X.2.2.2.2.1 _ (q_w_in q_mi)) (X.2.2.2.2.1 _ (q_w_in q_ab2)) (by omega) (by have := cat8 hs; omega) (Nat.le_trans hcn hmc) (Nat.le_trans hnn hms) hd (kk hcn hnn H locs ls S)
  | n + 68, hd, hlen, hex, h54, e0 => by cases hex
end QSTEP
