/-! ===== what the tables say is what the bytes and the words say ===== -/
def qBIG : List Cond := lw_tbl.filter goodWord
def q_cR (ci : Nat) : String := match ci with
  | 0 => RX0 | 1 => RX1 | 2 => RX2 | 3 => RX3 | 4 => RX4 | 5 => RX5 | 6 => RX6 | 7 => RX7 | _ => RX8
def q_cT (ci : Nat) : u_T := match ci with
  | 0 => TX0 | 1 => TX1 | 2 => TX2 | 3 => TX3 | 4 => TX4 | 5 => TX5 | 6 => TX6 | 7 => TX7 | _ => TX8
def q_cN (ci : Nat) : Nat := match ci with
  | 0 => 2 | 1 => 3 | 2 => 4 | 3 => 7 | 4 => 2 | 5 => 8 | 6 => 2 | 7 => 9 | _ => 27
def q_cty (ci : Nat) : Nat → FieldType := match ci with
  | 0 => tyX0 | 1 => tyX1 | 2 => tyX2 | 3 => tyX3 | 4 => tyX4 | 5 => tyX5 | 6 => tyX6 | 7 => tyX7 | _ => tyX8
/-- a field's kind: 0 an int, 1 a boolean, 2 a reference -/
def q_fk (t : FieldType) : Nat := match t with
  | .int => 0
  | .boolean => 1
  | .object _ => 2
  | .array _ => 2
  | _ => 3
theorem q_cl : ∀ ci, ci < 9 → vwCl[ci]? = some (q_cR ci, q_cT ci, q_cN ci) := by
  intro ci h
  match ci, h with
  | 0, _ => rfl | 1, _ => rfl | 2, _ => rfl | 3, _ => rfl | 4, _ => rfl | 5, _ => rfl | 6, _ => rfl | 7, _ => rfl | 8, _ => rfl
theorem q_ty : ∀ ci k, ci < 9 → k < q_cN ci → parseFieldDescriptor (q_cT ci k).2.2.1 = some (q_cty ci k) := by
  intro ci k h hk
  match ci, h with
  | 0, _ => exact tyX0_ok k hk | 1, _ => exact tyX1_ok k hk | 2, _ => exact tyX2_ok k hk | 3, _ => exact tyX3_ok k hk | 4, _ => exact tyX4_ok k hk | 5, _ => exact tyX5_ok k hk | 6, _ => exact tyX6_ok k hk | 7, _ => exact tyX7_ok k hk | 8, _ => exact tyX8_ok k hk
theorem q_nm : ∀ ci, ci < 9 → ∀ a, a < q_cN ci → ∀ b, b < q_cN ci → a ≠ b → (q_cT ci a).2.1 ≠ (q_cT ci b).2.1 := by
  intro ci h
  match ci, h with
  | 0, _ => exact nmX0 | 1, _ => exact nmX1 | 2, _ => exact nmX2 | 3, _ => exact nmX3 | 4, _ => exact nmX4 | 5, _ => exact nmX5 | 6, _ => exact nmX6 | 7, _ => exact nmX7 | 8, _ => exact nmX8
/-- the word at a place (a thousand times the piece, and the place in it), and good -/
def q_wg (p : Nat) : Option Cond := match p / 1000 with
  | 0 => (k2_sels lw_privs)[p]?
  | 1 => tables_1_1[p - 1000]?
  | 2 => tables_1_2[p - 2000]?
  | 3 => tables_1_3[p - 3000]?
  | 4 => tables_1_4[p - 4000]?
  | _ => tables_1_5[p - 5000]?
def q_nst : Cond → Bool
  | .fieldLinkNest .. => true
  | .methodLinkNest .. => true
  | _ => false
def qNST : List Cond := lw_tbl.filter q_nst
def q_wn (p : Nat) (w : Cond) : Bool := match q_wg p with
  | some v => decide (v = w) && q_nst w
  | none => false
def q_w (p : Nat) (w : Cond) : Bool := match q_wg p with
  | some v => decide (v = w) && goodWord w
  | none => false
theorem q_wg_in {p : Nat} {w : Cond} (h : q_wg p = some w) : w ∈ lw_tbl := by
  unfold q_wg at h
  have t1 : ∀ x ∈ tables_1, x ∈ lw_tbl := fun x hx => List.mem_append_right _ hx
  split at h
  · exact List.mem_append_left _ (List.mem_of_getElem? h)
  · exact t1 _ (List.mem_append_left _ (List.mem_of_getElem? h))
  · exact t1 _ (List.mem_append_right _ (List.mem_append_left _ (List.mem_of_getElem? h)))
  · exact t1 _ (List.mem_append_right _ (List.mem_append_right _ (List.mem_append_left _ (List.mem_of_getElem? h))))
  · exact t1 _ (List.mem_append_right _ (List.mem_append_right _ (List.mem_append_right _ (List.mem_append_left _ (List.mem_of_getElem? h)))))
  · exact t1 _ (List.mem_append_right _ (List.mem_append_right _ (List.mem_append_right _ (List.mem_append_right _ (List.mem_of_getElem? h)))))
theorem q_w_in {p : Nat} {w : Cond} (h : q_w p w = true) : w ∈ qBIG := by
  unfold q_w at h
  split at h
  · next v e =>
    simp only [Bool.and_eq_true, decide_eq_true_eq] at h
    obtain ⟨rfl, h2⟩ := h
    exact List.mem_filter.mpr ⟨q_wg_in e, h2⟩
  · cases h
theorem q_wn_in {p : Nat} {w : Cond} (h : q_wn p w = true) : w ∈ qNST := by
  unfold q_wn at h
  split at h
  · next v e =>
    simp only [Bool.and_eq_true, decide_eq_true_eq] at h
    obtain ⟨rfl, h2⟩ := h
    exact List.mem_filter.mpr ⟨q_wg_in e, h2⟩
  · cases h
/-- the places of a class's words -/
def q_cws (ci : Nat) : List Nat := (q_cwp.getD ci [])
theorem q_cw_all : ∀ ci, ci < 9 → ∀ k, k < q_cN ci → q_w ((q_cws ci).getD k 0) (u_lay (q_cR ci) (q_cT ci) k) = true := by decide +kernel
theorem q_cw : ∀ ci, ci < 9 → ∀ w ∈ u_ws (q_cR ci) (q_cT ci) (q_cN ci), w ∈ qBIG := by
  intro ci h w hw
  obtain ⟨k, hk, rfl⟩ := List.mem_map.mp hw
  exact q_w_in (q_cw_all ci h k (List.mem_range.mp hk))
def q_ins (pc : Nat) (op : qO) : Instr := match op.1 with
  | 0 => .iconst op.2.2.2.2.1
  | 1 => .bipush op.2.2.2.2.1
  | 2 => .sipush op.2.2.2.2.1
  | 3 => .ldc_w op.2.1
  | 4 => .lconst (Fin.ofNat 2 op.2.1)
  | 5 => .ldc2_w op.2.1
  | 6 => .iload_n (Fin.ofNat 4 op.2.1)
  | 7 => .iload op.2.1
  | 8 => .aload_n (Fin.ofNat 4 op.2.1)
  | 9 => .aload op.2.1
  | 10 => .istore_n (Fin.ofNat 4 op.2.1)
  | 11 => .istore op.2.1
  | 12 => .astore_n (Fin.ofNat 4 op.2.1)
  | 13 => .astore op.2.1
  | 14 => .iinc op.2.1 op.2.2.2.2.1
  | 15 => .iadd
  | 16 => .isub
  | 17 => .imul
  | 18 => .iand
  | 19 => .ior
  | 20 => .ixor
  | 21 => .ishl
  | 22 => .ishr
  | 23 => .iushr
  | 24 => .idiv
  | 25 => .irem
  | 26 => .i2l
  | 27 => .i2b
  | 64 => .ineg
  | 28 => .dup
  | 29 => .pop
  | 30 => .dup2
  | 31 => .goto ((op.2.1 : Int) - pc)
  | 32 => .if_icmp (match op.2.2.1 with | 0 => .eq | 1 => .ne | 2 => .lt | 3 => .ge | 4 => .gt | _ => .le) ((op.2.1 : Int) - pc)
  | 33 => .ifCond (match op.2.2.1 with | 0 => .eq | 1 => .ne | 2 => .lt | 3 => .ge | 4 => .gt | _ => .le) ((op.2.1 : Int) - pc)
  | 34 => .ifnull ((op.2.1 : Int) - pc)
  | 35 => .ifnonnull ((op.2.1 : Int) - pc)
  | 36 => .tableswitch ((op.2.1 : Int) - pc) 0 ((op.2.2.2.2.2.length : Int) - 1) (op.2.2.2.2.2.map fun (t : Nat) => (t : Int) - pc).toArray
  | 37 => match op.2.2.2.2.2 with
    | [k1, t1, k2, t2, k3, t3] => .lookupswitch ((op.2.1 : Int) - pc) #[((k1 : Int), (t1 : Int) - pc), ((k2 : Int), (t2 : Int) - pc), ((k3 : Int), (t3 : Int) - pc)]
    | _ => .nop
  | 38 => .getfield op.2.1
  | 39 => .getfield op.2.1
  | 40 => .putfield op.2.1
  | 41 => .putfield op.2.1
  | 42 => .putfield op.2.1
  | 43 => .iaload
  | 44 => .iastore
  | 45 => .baload
  | 46 => .bastore
  | 47 => .aaload
  | 48 => .aastore
  | 49 => .arraylength
  | 50 => .new op.2.1
  | 51 => .newarray (if op.2.2.1 = 2 then .int else .byte)
  | 52 => .anewarray op.2.1
  | 53 => .multianewarray op.2.1 2
  | 54 => match op.2.2.2.1 with
    | 0 => .invokevirtual op.2.1
    | 1 => .invokevirtual op.2.1
    | 2 => .invokestatic op.2.1
    | 3 => .invokestatic op.2.1
    | _ => .invokespecial op.2.1
  | 55 => .ireturn
  | 56 => .return_
  | 57 => .areturn
  | 58 => .invokespecial op.2.1
  | 59 => .ldc_w op.2.1
  | 60 => .invokevirtual op.2.1
  | 61 => .invokevirtual op.2.1
  | 62 => .ireturn
  | 63 => .aconst_null
  | 65 => .invokestatic op.2.1
  | 66 => .invokestatic op.2.1
  | 67 => .invokestatic op.2.1
  | _ => .nop
def q_len (oc : Nat) : Nat := match oc with
  | 1 => 2 | 2 => 3 | 3 => 3 | 5 => 3 | 7 => 2 | 9 => 2 | 11 => 2 | 13 => 2 | 14 => 3
  | 31 => 3 | 32 => 3 | 33 => 3 | 34 => 3 | 35 => 3 | 38 => 3 | 39 => 3 | 40 => 3 | 41 => 3 | 42 => 3
  | 50 => 3 | 51 => 2 | 52 => 3 | 53 => 4 | 54 => 3 | 58 => 3 | 59 => 3 | 60 => 3 | 61 => 3 | 65 => 3 | 66 => 3 | 67 => 3 | 36 => 0 | 37 => 0
  | _ => 1
def q_own (id : Nat) : String := (q_meth id).1.cls
def q_fw (own : String) (op : qO) : Cond := .fieldLink own op.2.1 (q_cT op.2.2.1 op.2.2.2.1).1 (q_cT op.2.2.1 op.2.2.2.1).2.1 (q_cT op.2.2.1 op.2.2.2.1).2.2.1
def q_fn (own : String) (op : qO) : Cond := .fieldLinkNest own op.2.1 (q_cT op.2.2.1 op.2.2.2.1).1 (q_cT op.2.2.1 op.2.2.2.1).2.1 (q_cT op.2.2.1 op.2.2.2.1).2.2.1 "NailedYears"
def q_fok (own : String) (op : qO) : Bool := if op.2.2.2.2.1 = 0 then q_w (op.2.2.2.2.2.getD 0 0) (q_fw own op) else q_wn (op.2.2.2.2.2.getD 0 0) (q_fn own op)
def q_mok (own : String) (op : qO) : Bool := if op.2.2.2.1 % 2 = 0 then q_w (op.2.2.2.2.2.getD 0 0) (.methodLink own op.2.1 (q_meth op.2.2.1).1) else q_wn (op.2.2.2.2.2.getD 0 0) (.methodLinkNest own op.2.1 (q_meth op.2.2.1).1 "NailedYears")
def q_p (tl : List Nat) (k : Nat) : Nat := tl.getD k 0
def q_form (w b : Nat) : Bool := match w with
  | 0 => Nat.beq (q_mkind b) 0
  | 1 => Nat.beq (q_mkind b) 0
  | 2 => Nat.beq (q_mkind b) 1
  | 3 => Nat.beq (q_mkind b) 1
  | 4 => Nat.beq (q_mkind b) 2
  | 5 => Nat.beq (q_mkind b) 2
  | _ => false
/-- what an instruction's row asks beside its decoding -/
def q_ex (id : Nat) (op : qO) : Bool := match op.1 with
  | 0 => true
  | 1 => decide ((Int8.ofInt op.2.2.2.2.1).toInt32 = Int32.ofInt op.2.2.2.2.1)
  | 2 => decide ((Int16.ofInt op.2.2.2.2.1).toInt32 = Int32.ofInt op.2.2.2.2.1)
  | 3 => q_w (q_p op.2.2.2.2.2 0) (.constant (q_own id) op.2.1 (Int32.ofInt op.2.2.2.2.1))
  | 4 => decide (Int64.ofNat (Fin.ofNat 2 op.2.1).val = Int64.ofInt op.2.2.2.2.1)
  | 5 => q_w (q_p op.2.2.2.2.2 0) (.constantLong (q_own id) op.2.1 (Int64.ofInt op.2.2.2.2.1))
  | 6 => Nat.ble op.2.1 3
  | 7 => true
  | 8 => Nat.ble op.2.1 3
  | 9 => true
  | 10 => Nat.ble op.2.1 3
  | 11 => true
  | 12 => Nat.ble op.2.1 3
  | 13 => true
  | 14 => true
  | 15 => true
  | 16 => true
  | 17 => true
  | 18 => true
  | 19 => true
  | 20 => true
  | 21 => true
  | 22 => true
  | 23 => true
  | 24 => true
  | 25 => true
  | 26 => true
  | 27 => true
  | 64 => true
  | 28 => true
  | 29 => true
  | 30 => true
  | 31 => true
  | 32 => Nat.ble op.2.2.1 5
  | 33 => Nat.ble op.2.2.1 5
  | 34 => true
  | 35 => true
  | 36 => true
  | 37 => (match op.2.2.2.2.2 with | [k1, _, k2, _, k3, _] => Nat.ble (k1 + 1) k2 && Nat.ble (k2 + 1) k3 | _ => false)
  | 38 => Nat.ble (op.2.2.1 + 1) 9 && (Nat.ble (op.2.2.2.1 + 1) (q_cN op.2.2.1) && (Nat.ble (q_fk (q_cty op.2.2.1 op.2.2.2.1)) 1 && q_fok (q_own id) op))
  | 39 => Nat.ble (op.2.2.1 + 1) 9 && (Nat.ble (op.2.2.2.1 + 1) (q_cN op.2.2.1) && (Nat.beq (q_fk (q_cty op.2.2.1 op.2.2.2.1)) 2 && q_fok (q_own id) op))
  | 40 => Nat.ble (op.2.2.1 + 1) 9 && (Nat.ble (op.2.2.2.1 + 1) (q_cN op.2.2.1) && (Nat.beq (q_fk (q_cty op.2.2.1 op.2.2.2.1)) 0 && (!(q_cT op.2.2.1 op.2.2.2.1).2.2.2 && q_fok (q_own id) op)))
  | 41 => Nat.ble (op.2.2.1 + 1) 9 && (Nat.ble (op.2.2.2.1 + 1) (q_cN op.2.2.1) && (Nat.beq (q_fk (q_cty op.2.2.1 op.2.2.2.1)) 1 && (!(q_cT op.2.2.1 op.2.2.2.1).2.2.2 && q_fok (q_own id) op)))
  | 42 => Nat.ble (op.2.2.1 + 1) 9 && (Nat.ble (op.2.2.2.1 + 1) (q_cN op.2.2.1) && (Nat.beq (q_fk (q_cty op.2.2.1 op.2.2.2.1)) 2 && ((q_cT op.2.2.1 op.2.2.2.1).2.2.2 && (decide (op.2.2.2.2.1 = 0) && (decide ((q_meth id).1.name = "<init>") && (decide ((q_cT op.2.2.1 op.2.2.2.1).1 = q_own id) && q_fok (q_own id) op))))))
  | 43 => true
  | 44 => true
  | 45 => true
  | 46 => true
  | 47 => true
  | 48 => true
  | 49 => true
  | 50 => Nat.ble (op.2.2.1 + 1) 9 && (Nat.beq op.2.2.2.1 (q_cN op.2.2.1) && (q_w (q_p op.2.2.2.2.2 0) (.classLink (q_own id) op.2.1 (q_cR op.2.2.1)) && (q_w (q_p op.2.2.2.2.2 1) (.instantiable (q_cR op.2.2.1) (q_cN op.2.2.1)) && q_w (q_p op.2.2.2.2.2 2) (.initialized (q_cR op.2.2.1)))))
  | 51 => Nat.beq op.2.2.1 2 || Nat.beq op.2.2.1 3
  | 52 => (Nat.beq op.2.2.1 4 && q_w (q_p op.2.2.2.2.2 0) (.classLink (q_own id) op.2.1 "NailedYears$Nail")) || (Nat.beq op.2.2.1 5 && q_w (q_p op.2.2.2.2.2 0) (.classLink (q_own id) op.2.1 "NailedYears$Wall"))
  | 53 => q_w (q_p op.2.2.2.2.2 0) (.classLink (q_own id) op.2.1 "[[I")
  | 54 => Nat.ble (op.2.2.1 + 1) q_lawId && (q_mok (q_own id) op && q_form op.2.2.2.1 op.2.2.1)
  | 55 => decide ((q_meth id).2.2.2.1 = some .int)
  | 56 => decide ((q_meth id).2.2.2.1 = none)
  | 57 => (match (q_meth id).2.2.2.1 with | some t => Nat.beq (q_fk t) 2 | none => false)
  | 58 => q_w (q_p op.2.2.2.2.2 0) (.methodLink (q_own id) op.2.1 objectInit)
  | 59 => decide (op.2.1 = 275) && decide (q_own id = "NailedYears")
  | 60 => q_w (q_p op.2.2.2.2.2 0) (.methodLink (q_own id) op.2.1 yJ0_length_8abf5)
  | 61 => q_w (q_p op.2.2.2.2.2 0) (.methodLink (q_own id) op.2.1 yJ0_charAt_5068e)
  | 62 => decide ((q_meth id).2.2.2.1 = some .boolean)
  | 63 => true
  | 65 => q_w (q_p op.2.2.2.2.2 0) (.methodLink (q_own id) op.2.1 Lib.Math.max.name)
  | 66 => q_w (q_p op.2.2.2.2.2 0) (.methodLink (q_own id) op.2.1 Lib.Math.min.name)
  | 67 => q_w (q_p op.2.2.2.2.2 0) (.methodLink (q_own id) op.2.1 Lib.Math.abs.name)
  | _ => false
def q_chk (id : Nat) (q : Nat × qO × Nat) : Bool := (match decode (q_meth id).2.1 q.1 with
  | .ok (i, n) => decide (i = q_ins q.1 q.2.1) && Nat.beq n q.2.2
  | .error _ => false) && ((Nat.beq (q_len q.2.1.1) 0 || Nat.beq q.2.2 (q_len q.2.1.1)) && q_ex id q.2.1)
/-- a method's own words: its code, that it is static (1), an instance's (0) or a constructor (2), that its class is initialised, which it selects -/
def q_mo (id : Nat) : Bool := plainName (q_own id) && (q_w ((q_mwp.getD id []).getD 0 0) (.code (q_meth id).1 (q_meth id).2.1 (q_meth id).2.2.1 (q_meth id).2.2.2.1) && (q_w ((q_mwp.getD id []).getD 1 0) (.initialized (q_own id)) && (decide ((q_meth id).1.cls ≠ "java/lang/invoke/MethodHandle" ∧ (q_meth id).1.cls ≠ "java/lang/invoke/VarHandle") && ((match q_mkind id with
  | 0 => q_w ((q_mwp.getD id []).getD 2 0) (.instanceMethod (q_meth id).1) && (q_w ((q_mwp.getD id []).getD 3 0) (.selects (q_own id) (q_meth id).1 (q_meth id).1) && (Nat.ble ((q_meth id).2.2.2.2.2.1 + 1) 9 && (decide (q_cR (q_meth id).2.2.2.2.2.1 = q_own id) && (!decide ((q_meth id).1.name = "<init>") && decide ((parseMethodDescriptor (q_meth id).1.desc).map (fun d => d.parameters.length + 1) = some (q_meth id).2.2.2.2.1)))))
  | 1 => q_w ((q_mwp.getD id []).getD 2 0) (.static (q_meth id).1) && (Nat.beq (q_meth id).2.2.2.2.2.1 100 && (!decide ((q_meth id).1.name = "<init>") && decide ((parseMethodDescriptor (q_meth id).1.desc).map (fun d => d.parameters.length) = some (q_meth id).2.2.2.2.1)))
  | _ => q_w ((q_mwp.getD id []).getD 2 0) (.instanceMethod (q_meth id).1) && (Nat.ble ((q_meth id).2.2.2.2.2.1 + 1) 9 && (decide (q_cR (q_meth id).2.2.2.2.2.1 = q_own id) && (decide ((q_meth id).1.name = "<init>") && (decide ((q_meth id).2.2.2.1 = none) && decide ((parseMethodDescriptor (q_meth id).1.desc).map (fun d => d.parameters.length + 1) = some (q_meth id).2.2.2.2.1)))))) && (Nat.ble (q_meth id).2.2.1 13 && Nat.ble (q_meth id).2.2.2.2.1 (q_meth id).2.2.1)))))
theorem q_ac2 : q_w (q_acp.getD 0 0) (.arrayClass .int) = true := by decide +kernel
theorem q_ac3 : q_w (q_acp.getD 1 0) (.arrayClass .byte) = true := by decide +kernel
theorem q_oi1 : q_w (q_acp.getD 2 0) (.instanceMethod objectInit) = true := by decide +kernel
theorem q_oi2 : q_w (q_acp.getD 3 0) (.code objectInit ⟨#[0xb1]⟩ 1 none) = true := by decide +kernel
theorem q_mi : q_w (q_acp.getD 4 0) (.initialized "java/lang/Math") = true := by decide +kernel
theorem q_mx1 : q_w (q_acp.getD 5 0) (.static Lib.Math.max.name) = true := by decide +kernel
theorem q_mx2 : q_w (q_acp.getD 6 0) (.code Lib.Math.max.name Lib.Math.max.code 2 (some .int)) = true := by decide +kernel
theorem q_mn1 : q_w (q_acp.getD 7 0) (.static Lib.Math.min.name) = true := by decide +kernel
theorem q_mn2 : q_w (q_acp.getD 8 0) (.code Lib.Math.min.name Lib.Math.min.code 2 (some .int)) = true := by decide +kernel
theorem q_ab1 : q_w (q_acp.getD 9 0) (.static Lib.Math.abs.name) = true := by decide +kernel
theorem q_ab2 : q_w (q_acp.getD 10 0) (.code Lib.Math.abs.name Lib.Math.abs.code 1 (some .int)) = true := by decide +kernel
theorem fk0 {t : FieldType} (h : q_fk t = 0) : t = .int := by cases t <;> first | rfl | cases h
theorem fk1 {t : FieldType} (h : q_fk t = 1) : t = .boolean := by cases t <;> first | rfl | cases h
