/-! ===== THE ABSTRACT MACHINE: memory by address and slot, one step, runs, calls ===== -/
abbrev qM : Type := (Nat → Nat × Nat) × (Nat → Nat → Int32) × (Nat → Nat → Option Nat) × Nat × Nat
def qS (M : qM) : Nat → Nat × Nat := M.1
def qI (M : qM) : Nat → Nat → Int32 := M.2.1
def qR (M : qM) : Nat → Nat → Option Nat := M.2.2.1
def qZ (M : qM) : Nat := M.2.2.2.1
def qT (M : qM) : Nat := M.2.2.2.2
def pI (M : qM) (a k : Nat) (v : Int32) : qM := (M.1, fun x j => if x = a ∧ j = k then v else M.2.1 x j, M.2.2)
def pR (M : qM) (a k : Nat) (v : Option Nat) : qM := (M.1, M.2.1, fun x j => if x = a ∧ j = k then v else M.2.2.1 x j, M.2.2.2)
/-- a new cell of the kind kd -/
def pN (M : qM) (kd : Nat × Nat) : qM := (fun x => if x = qZ M then kd else M.1 x, fun x j => if x = qZ M then 0 else M.2.1 x j, fun x j => if x = qZ M then none else M.2.2.1 x j, qZ M + 1, qT M)
/-- an outer array of n rows of m ints -/
def pMN (M : qM) (n m : Nat) : qM := (fun x => if x = qZ M then (6, n) else if qZ M < x ∧ x ≤ qZ M + n then (2, m) else M.1 x, fun x j => if qZ M ≤ x ∧ x ≤ qZ M + n then 0 else M.2.1 x j, fun x j => if x = qZ M then (if j < n then some (qZ M + 1 + j) else none) else if qZ M < x ∧ x ≤ qZ M + n then none else M.2.2.1 x j, qZ M + 1 + n, qT M)
theorem qS_pI {M : qM} {a k : Nat} {v : Int32} : qS (pI M a k v) = qS M := rfl
theorem qR_pI {M : qM} {a k : Nat} {v : Int32} : qR (pI M a k v) = qR M := rfl
theorem qZ_pI {M : qM} {a k : Nat} {v : Int32} : qZ (pI M a k v) = qZ M := rfl
theorem qT_pI {M : qM} {a k : Nat} {v : Int32} : qT (pI M a k v) = qT M := rfl
theorem qI_pI {M : qM} {a k b j : Nat} {v : Int32} : qI (pI M a k v) b j = if b = a ∧ j = k then v else qI M b j := rfl
theorem qS_pR {M : qM} {a k : Nat} {v : Option Nat} : qS (pR M a k v) = qS M := rfl
theorem qI_pR {M : qM} {a k : Nat} {v : Option Nat} : qI (pR M a k v) = qI M := rfl
theorem qZ_pR {M : qM} {a k : Nat} {v : Option Nat} : qZ (pR M a k v) = qZ M := rfl
theorem qT_pR {M : qM} {a k : Nat} {v : Option Nat} : qT (pR M a k v) = qT M := rfl
theorem qR_pR {M : qM} {a k b j : Nat} {v : Option Nat} : qR (pR M a k v) b j = if b = a ∧ j = k then v else qR M b j := rfl
theorem qS_pN {M : qM} {kd : Nat × Nat} {b : Nat} : qS (pN M kd) b = if b = qZ M then kd else qS M b := rfl
theorem qI_pN {M : qM} {kd : Nat × Nat} {b j : Nat} : qI (pN M kd) b j = if b = qZ M then 0 else qI M b j := rfl
theorem qR_pN {M : qM} {kd : Nat × Nat} {b j : Nat} : qR (pN M kd) b j = if b = qZ M then none else qR M b j := rfl
theorem qZ_pN {M : qM} {kd : Nat × Nat} : qZ (pN M kd) = qZ M + 1 := rfl
theorem qT_pN {M : qM} {kd : Nat × Nat} : qT (pN M kd) = qT M := rfl
noncomputable def qif {α : Type} (P : Prop) (a b : α) : α := @ite α P (Classical.propDecidable P) a b
theorem qif_t {α : Type} {P : Prop} {a b : α} (h : P) : qif P a b = a := @if_pos P (Classical.propDecidable P) h α a b
theorem qif_f {α : Type} {P : Prop} {a b : α} (h : ¬ P) : qif P a b = b := @if_neg P (Classical.propDecidable P) h α a b
theorem qif_some {α : Type} {P : Prop} {a : Option α} {b : α} (h : qif P a none = some b) : P ∧ a = some b := by
  rcases Classical.em P with p | p
  · rw [qif_t p] at h; exact ⟨p, h⟩
  · rw [qif_f p] at h; cases h
/-- pc, locals, stack, cells made, slots made, memory -/
abbrev qC : Type := Nat × List Value × List Value × Nat × Nat × qM
abbrev qOut : Type := Option Value × qM
abbrev qX : Type := Option (qC ⊕ qOut)
def qcmp (b : Nat) (x y : Int32) : Bool := match b with
  | 0 => x == y
  | 1 => !(x == y)
  | 2 => decide (x < y)
  | 3 => !decide (x < y)
  | 4 => decide (y < x)
  | _ => !decide (y < x)
def qsw (l : List Nat) (d : Nat) (x : Int32) : Nat := if x.toInt < 0 then d else if (l.length : Int) ≤ x.toInt then d else l.getD x.toInt.toNat d
def qlk : List Nat → Nat → Int32 → Nat
  | k :: t :: l, d, x => if x.toInt = (k : Int) then t else qlk l d x
  | _, d, _ => d
def qnar (x : Int32) : Int32 := vp_nar .byte x
def q_un (f : Int32 → Int32) : List Value → Option (List Value)
  | .int x :: r => some (.int (f x) :: r)
  | _ => none
def q_bi (f : Int32 → Int32 → Int32) : List Value → Option (List Value)
  | .int y :: .int x :: r => some (.int (f x y) :: r)
  | _ => none
def q_bi2 (f : Int32 → Int32 → Option Int32) : List Value → Option (List Value)
  | .int y :: .int x :: r => (f x y).map fun z => .int z :: r
  | _ => none
def q_ld (L : List Value) (k : Nat) (s : List Value) : Option (List Value) := match L[k]? with
  | some (.int x) => some (.int x :: s)
  | _ => none
def q_lda (L : List Value) (k : Nat) (s : List Value) : Option (List Value) := match L[k]? with
  | some (.ref x) => some (.ref x :: s)
  | _ => none
/-- an instruction that is no call: code a b w imm list, its length, at a state -/
noncomputable def q0 (mc ms : Nat) (op : qO) (len pc : Nat) (L s : List Value) (c n : Nat) (M : qM) : qX :=
  let nx : Option (List Value) → qX := fun r => r.map fun s' => .inl (pc + len, L, s', c, n, M)
  let jm : Nat → List Value → qX := fun t s' => some (.inl (t, L, s', c, n, M))
  match op.1 with
  | 0 => nx (some (.int (Int32.ofInt op.2.2.2.2.1) :: s))
  | 1 => nx (some (.int (Int32.ofInt op.2.2.2.2.1) :: s))
  | 2 => nx (some (.int (Int32.ofInt op.2.2.2.2.1) :: s))
  | 3 => nx (some (.int (Int32.ofInt op.2.2.2.2.1) :: s))
  | 4 => nx (some (.long (Int64.ofInt op.2.2.2.2.1) :: s))
  | 5 => nx (some (.long (Int64.ofInt op.2.2.2.2.1) :: s))
  | 6 => nx (q_ld L op.2.1 s)
  | 7 => nx (q_ld L op.2.1 s)
  | 8 => nx (q_lda L op.2.1 s)
  | 9 => nx (q_lda L op.2.1 s)
  | 10 => match s with
    | .int x :: r => qif (op.2.1 < L.length) (some (.inl (pc + len, L.set op.2.1 (.int x), r, c, n, M))) none
    | _ => none
  | 11 => match s with
    | .int x :: r => qif (op.2.1 < L.length) (some (.inl (pc + len, L.set op.2.1 (.int x), r, c, n, M))) none
    | _ => none
  | 12 => match s with
    | .ref x :: r => qif (op.2.1 < L.length) (some (.inl (pc + len, L.set op.2.1 (.ref x), r, c, n, M))) none
    | _ => none
  | 13 => match s with
    | .ref x :: r => qif (op.2.1 < L.length) (some (.inl (pc + len, L.set op.2.1 (.ref x), r, c, n, M))) none
    | _ => none
  | 14 => match L[op.2.1]? with
    | some (.int x) => some (.inl (pc + len, L.set op.2.1 (.int (x + Int32.ofInt op.2.2.2.2.1)), s, c, n, M))
    | _ => none
  | 15 => nx (q_bi (fun x y => x + y) s)
  | 16 => nx (q_bi (fun x y => x - y) s)
  | 17 => nx (q_bi (fun x y => x * y) s)
  | 18 => nx (q_bi (fun x y => x &&& y) s)
  | 19 => nx (q_bi (fun x y => x ||| y) s)
  | 20 => nx (q_bi (fun x y => x ^^^ y) s)
  | 21 => nx (q_bi (fun x y => x <<< (y &&& 31)) s)
  | 22 => nx (q_bi (fun x y => x >>> (y &&& 31)) s)
  | 23 => nx (q_bi (fun x y => (x.toUInt32 >>> (y.toUInt32 &&& Int32.toUInt32 31)).toInt32) s)
  | 24 => nx (q_bi2 (fun x y => if y = 0 then none else some (x / y)) s)
  | 25 => nx (q_bi2 (fun x y => if y = 0 then none else some (x - x / y * y)) s)
  | 26 => match s with
    | .int x :: r => nx (some (.long x.toInt64 :: r))
    | _ => none
  | 27 => nx (q_un (fun x => x.toInt8.toInt32) s)
  | 64 => nx (q_un (fun x => -x) s)
  | 28 => match s with
    | v :: r => qif (v.category = 1) (nx (some (v :: v :: r))) none
    | _ => none
  | 29 => match s with
    | v :: r => qif (v.category = 1) (nx (some r)) none
    | _ => none
  | 30 => match s with
    | v :: w :: r => qif (v.category = 1 ∧ w.category = 1) (nx (some (v :: w :: v :: w :: r))) none
    | _ => none
  | 31 => jm op.2.1 s
  | 32 => match s with
    | .int y :: .int x :: r => jm (if qcmp op.2.2.1 x y = true then op.2.1 else pc + len) r
    | _ => none
  | 33 => match s with
    | .int x :: r => jm (if qcmp op.2.2.1 x 0 = true then op.2.1 else pc + len) r
    | _ => none
  | 34 => match s with
    | .ref _ :: r => jm (pc + len) r
    | _ => none
  | 35 => match s with
    | .ref _ :: r => jm op.2.1 r
    | _ => none
  | 36 => match s with
    | .int x :: r => jm (qsw op.2.2.2.2.2 op.2.1 x) r
    | _ => none
  | 37 => match s with
    | .int x :: r => jm (qlk op.2.2.2.2.2 op.2.1 x) r
    | _ => none
  | 38 => match s with
    | .ref a :: r => qif (qS M a = (1, op.2.2.1)) (nx (some (.int (qI M a op.2.2.2.1) :: r))) none
    | _ => none
  | 39 => match s with
    | .ref a :: r => qif (qS M a = (1, op.2.2.1)) (nx (some (va_rf (qR M a op.2.2.2.1) :: r))) none
    | _ => none
  | 40 => match s with
    | .int x :: .ref a :: r => qif (qS M a = (1, op.2.2.1)) (some (.inl (pc + len, L, r, c, n, pI M a op.2.2.2.1 x))) none
    | _ => none
  | 41 => match s with
    | .int x :: .ref a :: r => qif (qS M a = (1, op.2.2.1) ∧ (x = 0 ∨ x = 1)) (some (.inl (pc + len, L, r, c, n, pI M a op.2.2.2.1 x))) none
    | _ => none
  | 42 => match s with
    | .ref x :: .ref a :: r => qif (qS M a = (1, op.2.2.1)) (some (.inl (pc + len, L, r, c, n, pR M a op.2.2.2.1 (some x)))) none
    | _ => none
  | 43 => match s with
    | .int i :: .ref a :: r => qif (((qS M a).1 = 2 ∨ (qS M a).1 = 7) ∧ vp_in i (qS M a).2) (nx (some (.int (qI M a i.toNatClampNeg) :: r))) none
    | _ => none
  | 44 => match s with
    | .int x :: .int i :: .ref a :: r => qif ((qS M a).1 = 2 ∧ vp_in i (qS M a).2) (some (.inl (pc + len, L, r, c, n, pI M a i.toNatClampNeg x))) none
    | _ => none
  | 45 => match s with
    | .int i :: .ref a :: r => qif ((qS M a).1 = 3 ∧ vp_in i (qS M a).2) (nx (some (.int (qI M a i.toNatClampNeg) :: r))) none
    | _ => none
  | 46 => match s with
    | .int x :: .int i :: .ref a :: r => qif ((qS M a).1 = 3 ∧ vp_in i (qS M a).2) (some (.inl (pc + len, L, r, c, n, pI M a i.toNatClampNeg (qnar x)))) none
    | _ => none
  | 47 => match s with
    | .int i :: .ref a :: r => qif (((qS M a).1 = 4 ∨ (qS M a).1 = 5 ∨ (qS M a).1 = 6) ∧ vp_in i (qS M a).2) (nx (some (va_rf (qR M a i.toNatClampNeg) :: r))) none
    | _ => none
  | 48 => match s with
    | .ref v :: .int i :: .ref a :: r => qif ((((qS M a).1 = 4 ∧ qS M v = (1, 3)) ∨ ((qS M a).1 = 5 ∧ qS M v = (1, 5))) ∧ vp_in i (qS M a).2) (some (.inl (pc + len, L, r, c, n, pR M a i.toNatClampNeg (some v)))) none
    | _ => none
  | 49 => match s with
    | .ref a :: r => qif (2 ≤ (qS M a).1 ∧ (qS M a).1 ≤ 7) (nx (some (.int (Int32.ofNat (qS M a).2) :: r))) none
    | _ => none
  | 50 => qif (c + 1 ≤ mc ∧ n + op.2.2.2.1 ≤ ms) (some (.inl (pc + len, L, .ref (qZ M) :: s, c + 1, n + op.2.2.2.1, pN M (1, op.2.2.1)))) none
  | 51 => match s with
    | .int k :: r => qif (vp_in k 1000 ∧ c + 1 ≤ mc ∧ n + k.toNatClampNeg ≤ ms) (some (.inl (pc + len, L, .ref (qZ M) :: r, c + 1, n + k.toNatClampNeg, pN M (op.2.2.1, k.toNatClampNeg)))) none
    | _ => none
  | 52 => match s with
    | .int k :: r => qif (vp_in k 1000 ∧ c + 1 ≤ mc ∧ n + k.toNatClampNeg ≤ ms) (some (.inl (pc + len, L, .ref (qZ M) :: r, c + 1, n + k.toNatClampNeg, pN M (op.2.2.1, k.toNatClampNeg)))) none
    | _ => none
  | 53 => match s with
    | .int k :: .int i :: r => qif (vp_in k 1000 ∧ vp_in i 1000 ∧ c + (1 + i.toNatClampNeg) ≤ mc ∧ n + (i.toNatClampNeg + i.toNatClampNeg * k.toNatClampNeg) ≤ ms) (some (.inl (pc + len, L, .ref (qZ M) :: r, c + 1 + i.toNatClampNeg, n + i.toNatClampNeg + i.toNatClampNeg * k.toNatClampNeg, pMN M i.toNatClampNeg k.toNatClampNeg))) none
    | _ => none
  | 55 => match s with
    | .int x :: [] => some (.inr (some (.int x), M))
    | _ => none
  | 56 => match s with
    | [] => some (.inr (none, M))
    | _ => none
  | 57 => match s with
    | .ref x :: [] => some (.inr (some (.ref x), M))
    | _ => none
  | 58 => match s with
    | .ref _ :: r => qif (r.length ≤ 4) (nx (some r)) none
    | _ => none
  | 59 => nx (some (.ref (qT M) :: s))
  | 60 => match s with
    | .ref a :: r => qif (a = qT M ∧ r.length ≤ 4) (nx (some (.int 82 :: r))) none
    | _ => none
  | 61 => match s with
    | .int i :: .ref a :: r => qif (a = qT M ∧ vp_in i 82 ∧ r.length ≤ 4) (nx (some (.int (nI (q_txt.getD i.toNatClampNeg 0)) :: r))) none
    | _ => none
  | 65 => match s with
    | .int y :: .int x :: r => qif (r.length ≤ 4) (nx (some (.int (if x < y then y else x) :: r))) none
    | _ => none
  | 66 => match s with
    | .int y :: .int x :: r => qif (r.length ≤ 4) (nx (some (.int (if y < x then y else x) :: r))) none
    | _ => none
  | 67 => match s with
    | .int x :: r => qif (r.length ≤ 4) (nx (some (.int (if 0 ≤ x then x else 0 - x) :: r))) none
    | _ => none
  | 62 => match s with
    | .int x :: [] => qif (x = 0 ∨ x = 1) (some (.inr (some (.int x), M))) none
    | _ => none
  | _ => none
/-- a call: the method, the arguments, what is left of the stack -/
def qpad (as : List Value) (n : Nat) : List Value := as ++ List.replicate (n - as.length) .null
def q_rcv (id : Nat) (as : List Value) (M : qM) : Prop := (q_meth id).2.2.2.2.2.1 = 100 ∨ ∃ a, as.head? = some (.ref a) ∧ qS M a = (1, (q_meth id).2.2.2.2.2.1)
noncomputable def q_call (cal : Nat → List Value → qM → Option qOut) (mc ms id : Nat) (s : List Value) (c n : Nat) (M : qM) : Option (List Value × Nat × Nat × qM) :=
  qif ((q_meth id).2.2.2.2.1 ≤ s.length ∧ (s.drop (q_meth id).2.2.2.2.1).length ≤ 4 ∧ q_rcv id (s.take (q_meth id).2.2.2.2.1).reverse M ∧ c + (q_meth id).2.2.2.2.2.2.1 ≤ mc ∧ n + (q_meth id).2.2.2.2.2.2.2 ≤ ms)
    ((cal id (s.take (q_meth id).2.2.2.2.1).reverse M).map fun o => (o.1.toList ++ s.drop (q_meth id).2.2.2.2.1, c + (q_meth id).2.2.2.2.2.2.1, n + (q_meth id).2.2.2.2.2.2.2, o.2)) none
noncomputable def q_run (cal : Nat → List Value → qM → Option qOut) (id : Nat) : Nat → qC → Option qOut
  | 0, _ => none
  | F + 1, (pc, L, s, c, n, M) => match q_prog id pc with
    | none => none
    | some (op, len) => match op.1 with
      | 54 => match q_call cal (q_meth id).2.2.2.2.2.2.1 (q_meth id).2.2.2.2.2.2.2 op.2.2.1 s c n M with
        | none => none
        | some (s', c', n', M') => q_run cal id F (pc + len, L, s', c', n', M')
      | _ => match q0 (q_meth id).2.2.2.2.2.2.1 (q_meth id).2.2.2.2.2.2.2 op len pc L s c n M with
        | none => none
        | some (.inl y) => q_run cal id F y
        | some (.inr o) => some o
/-- the small methods with longs, by what they answer -/
def q_prim (id : Nat) (as : List Value) (M : qM) : Option qOut := match q_pk id, as with
  | 1, [.long v, .long lo, .long hi] => some (some (.int (if lo ≤ v ∧ v ≤ hi then 1 else 0)), M)
  | 2, [.int z, .int k, .int c] => some (some (.int (q_draw z k c)), M)
  | _, _ => none
noncomputable def q_ev : Nat → Nat → Nat → List Value → qM → Option qOut
  | 0, _, _, _, _ => none
  | d + 1, F, id, as, M => if q_pk id = 0 then qif (∀ v ∈ as, v.category = 1) (q_run (q_ev d F) id F (0, qpad as (q_meth id).2.2.1, [], 0, 0, M)) none else q_prim id as M
def Rn (d id : Nat) (x : qC) (o : qOut) : Prop := ∃ F G, q_run (q_ev d G) id F x = some o
def Ev (d id : Nat) (as : List Value) (M : qM) (o : qOut) : Prop := ∃ F, q_ev d F id as M = some o
theorem q_call_mono {cal cal' : Nat → List Value → qM → Option qOut} (h : ∀ id as M o, cal id as M = some o → cal' id as M = some o) {mc ms id : Nat} {s : List Value} {c n : Nat} {M : qM} {r} (e : q_call cal mc ms id s c n M = some r) : q_call cal' mc ms id s c n M = some r := by
  unfold q_call at e ⊢
  obtain ⟨p, e⟩ := qif_some e
  rw [qif_t p]
  cases hc : cal id (s.take (q_meth id).2.2.2.2.1).reverse M with
  | none => rw [hc] at e; cases e
  | some o => rw [hc] at e; rw [h _ _ _ _ hc]; exact e
theorem q_run_mono {cal cal' : Nat → List Value → qM → Option qOut} (h : ∀ id as M o, cal id as M = some o → cal' id as M = some o) {id : Nat} : ∀ {F F' : Nat} {x : qC} {o : qOut}, F ≤ F' → q_run cal id F x = some o → q_run cal' id F' x = some o := by
  intro F
  induction F with
  | zero => intro F' x o _ e; cases e
  | succ F ih =>
    intro F' x o hF e
    obtain ⟨pc, L, s, c, n, M⟩ := x
    cases F' with
    | zero => omega
    | succ F' =>
      unfold q_run at e ⊢
      cases hp : q_prog id pc with
      | none => rw [hp] at e; cases e
      | some q =>
        rw [hp] at e
        obtain ⟨op, len⟩ := q
        dsimp only at e ⊢
        split at e
        · next h54 =>
          split at e
          · cases e
          · next s' c' n' M' hc =>
            rw [q_call_mono h hc]
            exact ih (by omega) e
        · next h54 =>
          split at e
          · cases e
          · next y hy => exact ih (by omega) e
          · next o' hy => exact e
theorem q_ev_mono : ∀ {d F F' id : Nat} {as : List Value} {M : qM} {o : qOut}, F ≤ F' → q_ev d F id as M = some o → q_ev d F' id as M = some o := by
  intro d
  induction d with
  | zero => intro F F' id as M o _ e; cases e
  | succ d ih =>
    intro F F' id as M o hF e
    unfold q_ev at e ⊢
    split at e
    · next hk =>
      rw [if_pos hk]
      obtain ⟨p, e⟩ := qif_some e
      rw [qif_t p]
      exact q_run_mono (fun _ _ _ _ h => ih hF h) hF e
    · next hk => rw [if_neg hk]; exact e
theorem q_ev_up : ∀ {d F id : Nat} {as : List Value} {M : qM} {o : qOut}, q_ev d F id as M = some o → q_ev (d + 1) F id as M = some o := by
  intro d
  induction d with
  | zero => intro F id as M o e; cases e
  | succ d ih =>
    intro F id as M o e
    unfold q_ev at e ⊢
    split at e
    · next hk =>
      rw [if_pos hk]
      obtain ⟨p, e⟩ := qif_some e
      rw [qif_t p]
      exact q_run_mono (fun _ _ _ _ h => ih h) (Nat.le_refl _) e
    · next hk => rw [if_neg hk]; exact e
theorem Ev_up {d id : Nat} {as : List Value} {M : qM} {o : qOut} (h : Ev d id as M o) : Ev (d + 1) id as M o := h.imp fun _ e => q_ev_up e
theorem Ev_le {d d' id : Nat} {as : List Value} {M : qM} {o : qOut} (hd : d ≤ d') (h : Ev d id as M o) : Ev d' id as M o := by
  induction hd with
  | refl => exact h
  | step _ ih => exact Ev_up ih
theorem Ev_det {d id : Nat} {as : List Value} {M : qM} {o o' : qOut} (h : Ev d id as M o) (h' : Ev d id as M o') : o' = o := by
  obtain ⟨F, e⟩ := h
  obtain ⟨F', e'⟩ := h'
  have e1 := q_ev_mono (Nat.le_max_left F F') e
  have e2 := q_ev_mono (Nat.le_max_right F F') e'
  rw [e1] at e2
  exact (Option.some.inj e2).symm
theorem Ev_eq {d id : Nat} {as : List Value} {M : qM} {o : qOut} (h : Ev d id as M o) (o' : qOut) : Ev d id as M o' = (o' = o) := propext ⟨fun h' => Ev_det h h', fun e => e ▸ h⟩
theorem Rn_step {d id pc len : Nat} {op : qO} {L s : List Value} {c n : Nat} {M : qM} {y : qC} {o : qOut} (hp : q_prog id pc = some (op, len)) (h54 : Nat.beq op.1 54 = false) (e : q0 (q_meth id).2.2.2.2.2.2.1 (q_meth id).2.2.2.2.2.2.2 op len pc L s c n M = some (.inl y)) : Rn d id (pc, L, s, c, n, M) o = Rn d id y o := by
  have hne : op.1 = 54 → False := fun q => by rw [q] at h54; cases h54
  have key : ∀ F G, q_run (q_ev d G) id (F + 1) (pc, L, s, c, n, M) = q_run (q_ev d G) id F y := by
    intro F G
    rw [q_run, hp]
    dsimp only
    split
    · next q => exact absurd q hne
    · rw [e]
  refine propext ⟨fun ⟨F, G, h⟩ => ?_, fun ⟨F, G, h⟩ => ⟨F + 1, G, by rw [key]; exact h⟩⟩
  cases F with
  | zero => cases h
  | succ F => exact ⟨F, G, by rw [← key]; exact h⟩
theorem Rn_ret {d id pc len : Nat} {op : qO} {L s : List Value} {c n : Nat} {M : qM} {o o' : qOut} (hp : q_prog id pc = some (op, len)) (h54 : Nat.beq op.1 54 = false) (e : q0 (q_meth id).2.2.2.2.2.2.1 (q_meth id).2.2.2.2.2.2.2 op len pc L s c n M = some (.inr o')) : Rn d id (pc, L, s, c, n, M) o = (o = o') := by
  have hne : op.1 = 54 → False := fun q => by rw [q] at h54; cases h54
  have key : ∀ F G, q_run (q_ev d G) id (F + 1) (pc, L, s, c, n, M) = some o' := by
    intro F G
    rw [q_run, hp]
    dsimp only
    split
    · next q => exact absurd q hne
    · rw [e]
  refine propext ⟨fun ⟨F, G, h⟩ => ?_, fun h => ⟨1, 0, by rw [key, h]⟩⟩
  cases F with
  | zero => cases h
  | succ F => rw [key] at h; exact (Option.some.inj h).symm
theorem Rn_call {d id id' pc len a w na mc ms : Nat} {im : Int} {tl : List Nat} {L s as rest : List Value} {c n : Nat} {M : qM} {o : qOut} (hp : q_prog id pc = some ((54, a, id', w, im, tl), len)) (hna : (q_meth id').2.2.2.2.1 = na) (hmc : (q_meth id').2.2.2.2.2.2.1 = mc) (hms : (q_meth id').2.2.2.2.2.2.2 = ms)
    (hs : s = as.reverse ++ rest) (hl : as.length = na) (hr : Nat.ble rest.length 4 = true) (hv : q_rcv id' as M) (h1 : c + mc ≤ (q_meth id).2.2.2.2.2.2.1) (h2 : n + ms ≤ (q_meth id).2.2.2.2.2.2.2) :
    Rn d id (pc, L, s, c, n, M) o = ∃ q, Ev d id' as M q ∧ Rn d id (pc + len, L, q.1.toList ++ rest, c + mc, n + ms, q.2) o := by
  subst hs
  have ht : ((as.reverse ++ rest).take na).reverse = as := by rw [List.take_append_of_le_length (by simp [hl]), List.take_of_length_le (by simp [hl]), List.reverse_reverse]
  have hd : (as.reverse ++ rest).drop na = rest := by rw [List.drop_append_of_le_length (by simp [hl]), List.drop_of_length_le (by simp [hl]), List.nil_append]
  have hc : ∀ G, q_call (q_ev d G) (q_meth id).2.2.2.2.2.2.1 (q_meth id).2.2.2.2.2.2.2 id' (as.reverse ++ rest) c n M = (q_ev d G id' as M).map fun o => (o.1.toList ++ rest, c + mc, n + ms, o.2) := by
    intro G
    unfold q_call
    rw [hna, hmc, hms, ht, hd, qif_t ⟨by simp [← hl], Nat.le_of_ble_eq_true hr, hv, h1, h2⟩]
  have key : ∀ F G, q_run (q_ev d G) id (F + 1) (pc, L, as.reverse ++ rest, c, n, M) = match q_ev d G id' as M with
      | none => none
      | some q => q_run (q_ev d G) id F (pc + len, L, q.1.toList ++ rest, c + mc, n + ms, q.2) := by
    intro F G
    rw [q_run, hp]
    dsimp only
    rw [hc]
    cases q_ev d G id' as M <;> rfl
  refine propext ⟨fun ⟨F, G, h⟩ => ?_, fun ⟨q, ⟨F, e⟩, ⟨F2, G2, h⟩⟩ => ?_⟩
  · cases F with
    | zero => cases h
    | succ F =>
      rw [key] at h
      cases hq : q_ev d G id' as M with
      | none => rw [hq] at h; cases h
      | some q => rw [hq] at h; exact ⟨q, ⟨G, hq⟩, ⟨F, G, h⟩⟩
  · refine ⟨F2 + 1, max F G2, ?_⟩
    rw [key, q_ev_mono (Nat.le_max_left F G2) e]
    exact q_run_mono (fun _ _ _ _ h => q_ev_mono (Nat.le_max_right F G2) h) (Nat.le_refl _) h
theorem Ev_in {d id mL : Nat} {as : List Value} {M : qM} {o : qOut} (hk : q_pk id = 0) (hL : (q_meth id).2.2.1 = mL) (hc : ∀ v ∈ as, v.category = 1) : Ev (d + 1) id as M o = Rn d id (0, qpad as mL, [], 0, 0, M) o := by
  have key : ∀ F, q_ev (d + 1) F id as M = q_run (q_ev d F) id F (0, qpad as mL, [], 0, 0, M) := by
    intro F
    rw [q_ev, if_pos hk, qif_t hc, hL]
  refine propext ⟨fun ⟨F, h⟩ => ⟨F, F, by rw [← key]; exact h⟩, fun ⟨F, G, h⟩ => ⟨max F G, ?_⟩⟩
  rw [key]
  exact q_run_mono (fun _ _ _ _ h => q_ev_mono (Nat.le_max_right F G) h) (Nat.le_max_left F G) h

def q_is (id pc : Nat) (op : qO) (len : Nat) : Bool := match q_prog id pc with
  | some q => Nat.beq q.1.1 op.1 && (Nat.beq q.1.2.1 op.2.1 && (Nat.beq q.1.2.2.1 op.2.2.1 && (Nat.beq q.1.2.2.2.1 op.2.2.2.1 && (decide (q.1.2.2.2.2.1 = op.2.2.2.2.1) && (decide (q.1.2.2.2.2.2 = op.2.2.2.2.2) && Nat.beq q.2 len)))))
  | none => false
theorem q_ok {id pc : Nat} {op : qO} {len : Nat} (h : q_is id pc op len = true) : q_prog id pc = some (op, len) := by
  unfold q_is at h
  split at h
  · next q e =>
    obtain ⟨⟨q1, q2, q3, q4, q5, q6⟩, q7⟩ := q
    obtain ⟨o1, o2, o3, o4, o5, o6⟩ := op
    simp only [Bool.and_eq_true, Nat.beq_eq, decide_eq_true_eq] at h
    obtain ⟨rfl, rfl, rfl, rfl, rfl, rfl, rfl⟩ := h
    exact e
  · cases h
def q01 (x : Int32) : Prop := x = 0 ∨ x = 1
section QROW
variable {d id pc len a b w : Nat} {im : Int} {tl : List Nat} {L s : List Value} {c n : Nat} {M : qM} {o : qOut} {x y i v : Int32} {r : Nat}
theorem r_0 (h : q_prog id pc = some ((0, a, b, w, im, tl), len)) (hv : Int32.ofInt im = v) : Rn d id (pc, L, s, c, n, M) o = Rn d id (pc + len, L, .int v :: s, c, n, M) o := by subst hv; exact Rn_step h rfl rfl
theorem r_1 (h : q_prog id pc = some ((1, a, b, w, im, tl), len)) (hv : Int32.ofInt im = v) : Rn d id (pc, L, s, c, n, M) o = Rn d id (pc + len, L, .int v :: s, c, n, M) o := by subst hv; exact Rn_step h rfl rfl
theorem r_2 (h : q_prog id pc = some ((2, a, b, w, im, tl), len)) (hv : Int32.ofInt im = v) : Rn d id (pc, L, s, c, n, M) o = Rn d id (pc + len, L, .int v :: s, c, n, M) o := by subst hv; exact Rn_step h rfl rfl
theorem r_3 (h : q_prog id pc = some ((3, a, b, w, im, tl), len)) (hv : Int32.ofInt im = v) : Rn d id (pc, L, s, c, n, M) o = Rn d id (pc + len, L, .int v :: s, c, n, M) o := by subst hv; exact Rn_step h rfl rfl
theorem r_4 (h : q_prog id pc = some ((4, a, b, w, im, tl), len)) : Rn d id (pc, L, s, c, n, M) o = Rn d id (pc + len, L, .long (Int64.ofInt im) :: s, c, n, M) o := Rn_step h rfl rfl
theorem r_5 (h : q_prog id pc = some ((5, a, b, w, im, tl), len)) : Rn d id (pc, L, s, c, n, M) o = Rn d id (pc + len, L, .long (Int64.ofInt im) :: s, c, n, M) o := Rn_step h rfl rfl
theorem r_6 (h : q_prog id pc = some ((6, a, b, w, im, tl), len)) (hl : L[a]? = some (.int x)) : Rn d id (pc, L, s, c, n, M) o = Rn d id (pc + len, L, .int x :: s, c, n, M) o := Rn_step h rfl (by show Option.map _ (q_ld L a s) = _; unfold q_ld; rw [hl]; rfl)
theorem r_7 (h : q_prog id pc = some ((7, a, b, w, im, tl), len)) (hl : L[a]? = some (.int x)) : Rn d id (pc, L, s, c, n, M) o = Rn d id (pc + len, L, .int x :: s, c, n, M) o := Rn_step h rfl (by show Option.map _ (q_ld L a s) = _; unfold q_ld; rw [hl]; rfl)
theorem r_8 (h : q_prog id pc = some ((8, a, b, w, im, tl), len)) (hl : L[a]? = some (.ref r)) : Rn d id (pc, L, s, c, n, M) o = Rn d id (pc + len, L, .ref r :: s, c, n, M) o := Rn_step h rfl (by show Option.map _ (q_lda L a s) = _; unfold q_lda; rw [hl]; rfl)
theorem r_9 (h : q_prog id pc = some ((9, a, b, w, im, tl), len)) (hl : L[a]? = some (.ref r)) : Rn d id (pc, L, s, c, n, M) o = Rn d id (pc + len, L, .ref r :: s, c, n, M) o := Rn_step h rfl (by show Option.map _ (q_lda L a s) = _; unfold q_lda; rw [hl]; rfl)
theorem r_10 {L' : List Value} (h : q_prog id pc = some ((10, a, b, w, im, tl), len)) (hl : Nat.ble (a + 1) L.length = true) (e : L.set a (.int x) = L') : Rn d id (pc, L, .int x :: s, c, n, M) o = Rn d id (pc + len, L', s, c, n, M) o := by subst e; exact Rn_step h rfl (qif_t (Nat.le_of_ble_eq_true hl))
theorem r_11 {L' : List Value} (h : q_prog id pc = some ((11, a, b, w, im, tl), len)) (hl : Nat.ble (a + 1) L.length = true) (e : L.set a (.int x) = L') : Rn d id (pc, L, .int x :: s, c, n, M) o = Rn d id (pc + len, L', s, c, n, M) o := by subst e; exact Rn_step h rfl (qif_t (Nat.le_of_ble_eq_true hl))
theorem r_12 {L' : List Value} (h : q_prog id pc = some ((12, a, b, w, im, tl), len)) (hl : Nat.ble (a + 1) L.length = true) (e : L.set a (.ref r) = L') : Rn d id (pc, L, .ref r :: s, c, n, M) o = Rn d id (pc + len, L', s, c, n, M) o := by subst e; exact Rn_step h rfl (qif_t (Nat.le_of_ble_eq_true hl))
theorem r_13 {L' : List Value} (h : q_prog id pc = some ((13, a, b, w, im, tl), len)) (hl : Nat.ble (a + 1) L.length = true) (e : L.set a (.ref r) = L') : Rn d id (pc, L, .ref r :: s, c, n, M) o = Rn d id (pc + len, L', s, c, n, M) o := by subst e; exact Rn_step h rfl (qif_t (Nat.le_of_ble_eq_true hl))
theorem r_14 {L' : List Value} (h : q_prog id pc = some ((14, a, b, w, im, tl), len)) (hl : L[a]? = some (.int x)) (hv : Int32.ofInt im = v) (e : L.set a (.int (x + v)) = L') : Rn d id (pc, L, s, c, n, M) o = Rn d id (pc + len, L', s, c, n, M) o := by subst e; subst hv; exact Rn_step h rfl (by show (match L[a]? with | some (.int x) => _ | _ => _) = _; rw [hl])
theorem r_15 (h : q_prog id pc = some ((15, a, b, w, im, tl), len)) : Rn d id (pc, L, .int y :: .int x :: s, c, n, M) o = Rn d id (pc + len, L, .int (x + y) :: s, c, n, M) o := Rn_step h rfl rfl
theorem r_16 (h : q_prog id pc = some ((16, a, b, w, im, tl), len)) : Rn d id (pc, L, .int y :: .int x :: s, c, n, M) o = Rn d id (pc + len, L, .int (x - y) :: s, c, n, M) o := Rn_step h rfl rfl
theorem r_17 (h : q_prog id pc = some ((17, a, b, w, im, tl), len)) : Rn d id (pc, L, .int y :: .int x :: s, c, n, M) o = Rn d id (pc + len, L, .int (x * y) :: s, c, n, M) o := Rn_step h rfl rfl
theorem r_18 (h : q_prog id pc = some ((18, a, b, w, im, tl), len)) : Rn d id (pc, L, .int y :: .int x :: s, c, n, M) o = Rn d id (pc + len, L, .int (x &&& y) :: s, c, n, M) o := Rn_step h rfl rfl
theorem r_19 (h : q_prog id pc = some ((19, a, b, w, im, tl), len)) : Rn d id (pc, L, .int y :: .int x :: s, c, n, M) o = Rn d id (pc + len, L, .int (x ||| y) :: s, c, n, M) o := Rn_step h rfl rfl
theorem r_20 (h : q_prog id pc = some ((20, a, b, w, im, tl), len)) : Rn d id (pc, L, .int y :: .int x :: s, c, n, M) o = Rn d id (pc + len, L, .int (x ^^^ y) :: s, c, n, M) o := Rn_step h rfl rfl
theorem r_21 (h : q_prog id pc = some ((21, a, b, w, im, tl), len)) : Rn d id (pc, L, .int y :: .int x :: s, c, n, M) o = Rn d id (pc + len, L, .int (x <<< (y &&& 31)) :: s, c, n, M) o := Rn_step h rfl rfl
theorem r_22 (h : q_prog id pc = some ((22, a, b, w, im, tl), len)) : Rn d id (pc, L, .int y :: .int x :: s, c, n, M) o = Rn d id (pc + len, L, .int (x >>> (y &&& 31)) :: s, c, n, M) o := Rn_step h rfl rfl
theorem r_23 (h : q_prog id pc = some ((23, a, b, w, im, tl), len)) : Rn d id (pc, L, .int y :: .int x :: s, c, n, M) o = Rn d id (pc + len, L, .int ((x.toUInt32 >>> (y.toUInt32 &&& Int32.toUInt32 31)).toInt32) :: s, c, n, M) o := Rn_step h rfl rfl
theorem r_24 (h : q_prog id pc = some ((24, a, b, w, im, tl), len)) (hy : ¬ y = 0) : Rn d id (pc, L, .int y :: .int x :: s, c, n, M) o = Rn d id (pc + len, L, .int (x / y) :: s, c, n, M) o := Rn_step h rfl (by show Option.map _ (Option.map _ (if y = 0 then none else some (x / y))) = _; rw [if_neg hy]; rfl)
theorem r_25 (h : q_prog id pc = some ((25, a, b, w, im, tl), len)) (hy : ¬ y = 0) : Rn d id (pc, L, .int y :: .int x :: s, c, n, M) o = Rn d id (pc + len, L, .int (x - x / y * y) :: s, c, n, M) o := Rn_step h rfl (by show Option.map _ (Option.map _ (if y = 0 then none else some (x - x / y * y))) = _; rw [if_neg hy]; rfl)
theorem r_26 (h : q_prog id pc = some ((26, a, b, w, im, tl), len)) : Rn d id (pc, L, .int x :: s, c, n, M) o = Rn d id (pc + len, L, .long x.toInt64 :: s, c, n, M) o := Rn_step h rfl rfl
theorem r_27 (h : q_prog id pc = some ((27, a, b, w, im, tl), len)) : Rn d id (pc, L, .int x :: s, c, n, M) o = Rn d id (pc + len, L, .int x.toInt8.toInt32 :: s, c, n, M) o := Rn_step h rfl rfl
theorem r_64 (h : q_prog id pc = some ((64, a, b, w, im, tl), len)) : Rn d id (pc, L, .int x :: s, c, n, M) o = Rn d id (pc + len, L, .int (-x) :: s, c, n, M) o := Rn_step h rfl rfl
theorem r_28r (h : q_prog id pc = some ((28, a, b, w, im, tl), len)) : Rn d id (pc, L, .ref r :: s, c, n, M) o = Rn d id (pc + len, L, .ref r :: .ref r :: s, c, n, M) o := Rn_step h rfl (qif_t rfl)
theorem r_28i (h : q_prog id pc = some ((28, a, b, w, im, tl), len)) : Rn d id (pc, L, .int x :: s, c, n, M) o = Rn d id (pc + len, L, .int x :: .int x :: s, c, n, M) o := Rn_step h rfl (qif_t rfl)
theorem r_29r (h : q_prog id pc = some ((29, a, b, w, im, tl), len)) : Rn d id (pc, L, .ref r :: s, c, n, M) o = Rn d id (pc + len, L, s, c, n, M) o := Rn_step h rfl (qif_t rfl)
theorem r_29i (h : q_prog id pc = some ((29, a, b, w, im, tl), len)) : Rn d id (pc, L, .int x :: s, c, n, M) o = Rn d id (pc + len, L, s, c, n, M) o := Rn_step h rfl (qif_t rfl)
theorem r_30 (h : q_prog id pc = some ((30, a, b, w, im, tl), len)) : Rn d id (pc, L, .int x :: .ref r :: s, c, n, M) o = Rn d id (pc + len, L, .int x :: .ref r :: .int x :: .ref r :: s, c, n, M) o := Rn_step h rfl (qif_t ⟨rfl, rfl⟩)
theorem r_31 (h : q_prog id pc = some ((31, a, b, w, im, tl), len)) : Rn d id (pc, L, s, c, n, M) o = Rn d id (a, L, s, c, n, M) o := Rn_step h rfl rfl
theorem qcmp_if {α : Sort _} {b : Nat} {x y : Int32} {P : Prop} [Decidable P] {u v : α} (h : qcmp b x y = decide P) : (if qcmp b x y = true then u else v) = if P then u else v := by
  by_cases p : P
  · rw [if_pos p, if_pos (by rw [h]; exact decide_eq_true p)]
  · rw [if_neg p, if_neg (by rw [h]; simp [p])]
theorem qcmp_ifn {α : Sort _} {b : Nat} {x y : Int32} {P : Prop} [Decidable P] {u v : α} (h : qcmp b x y = !decide P) : (if qcmp b x y = true then u else v) = if P then v else u := by
  by_cases p : P
  · rw [if_pos p, if_neg (by rw [h]; simp [p])]
  · rw [if_neg p, if_pos (by rw [h]; simp [p])]
theorem r_32 (h : q_prog id pc = some ((32, a, b, w, im, tl), len)) : Rn d id (pc, L, .int y :: .int x :: s, c, n, M) o = if qcmp b x y = true then Rn d id (a, L, s, c, n, M) o else Rn d id (pc + len, L, s, c, n, M) o := by
  rw [Rn_step h rfl rfl]
  show Rn d id (if qcmp b x y = true then a else pc + len, L, s, c, n, M) o = _
  split <;> rfl
theorem r_33 (h : q_prog id pc = some ((33, a, b, w, im, tl), len)) : Rn d id (pc, L, .int x :: s, c, n, M) o = if qcmp b x (nI 0) = true then Rn d id (a, L, s, c, n, M) o else Rn d id (pc + len, L, s, c, n, M) o := by
  rw [Rn_step h rfl rfl]
  show Rn d id (if qcmp b x 0 = true then a else pc + len, L, s, c, n, M) o = _
  rw [show nI 0 = 0 from nI_0]
  split <;> rfl
theorem qc0 {x y : Int32} : qcmp 0 x y = decide (x = y) := by show (x == y) = _; by_cases h : x = y <;> simp [h]
theorem qc1 {x y : Int32} : qcmp 1 x y = !decide (x = y) := by show (!(x == y)) = _; by_cases h : x = y <;> simp [h]
theorem r_32_0 (h : q_prog id pc = some ((32, a, 0, w, im, tl), len)) : Rn d id (pc, L, .int y :: .int x :: s, c, n, M) o = if x = y then Rn d id (a, L, s, c, n, M) o else Rn d id (pc + len, L, s, c, n, M) o := (r_32 h).trans (qcmp_if qc0)
theorem r_32_1 (h : q_prog id pc = some ((32, a, 1, w, im, tl), len)) : Rn d id (pc, L, .int y :: .int x :: s, c, n, M) o = if x = y then Rn d id (pc + len, L, s, c, n, M) o else Rn d id (a, L, s, c, n, M) o := (r_32 h).trans (qcmp_ifn qc1)
theorem r_32_2 (h : q_prog id pc = some ((32, a, 2, w, im, tl), len)) : Rn d id (pc, L, .int y :: .int x :: s, c, n, M) o = if x < y then Rn d id (a, L, s, c, n, M) o else Rn d id (pc + len, L, s, c, n, M) o := (r_32 h).trans (qcmp_if rfl)
theorem r_32_3 (h : q_prog id pc = some ((32, a, 3, w, im, tl), len)) : Rn d id (pc, L, .int y :: .int x :: s, c, n, M) o = if x < y then Rn d id (pc + len, L, s, c, n, M) o else Rn d id (a, L, s, c, n, M) o := (r_32 h).trans (qcmp_ifn rfl)
theorem r_32_4 (h : q_prog id pc = some ((32, a, 4, w, im, tl), len)) : Rn d id (pc, L, .int y :: .int x :: s, c, n, M) o = if y < x then Rn d id (a, L, s, c, n, M) o else Rn d id (pc + len, L, s, c, n, M) o := (r_32 h).trans (qcmp_if rfl)
theorem r_32_5 (h : q_prog id pc = some ((32, a, 5, w, im, tl), len)) : Rn d id (pc, L, .int y :: .int x :: s, c, n, M) o = if y < x then Rn d id (pc + len, L, s, c, n, M) o else Rn d id (a, L, s, c, n, M) o := (r_32 h).trans (qcmp_ifn rfl)
theorem r_33_0 (h : q_prog id pc = some ((33, a, 0, w, im, tl), len)) : Rn d id (pc, L, .int x :: s, c, n, M) o = if x = nI 0 then Rn d id (a, L, s, c, n, M) o else Rn d id (pc + len, L, s, c, n, M) o := (r_33 h).trans (qcmp_if qc0)
theorem r_33_1 (h : q_prog id pc = some ((33, a, 1, w, im, tl), len)) : Rn d id (pc, L, .int x :: s, c, n, M) o = if x = nI 0 then Rn d id (pc + len, L, s, c, n, M) o else Rn d id (a, L, s, c, n, M) o := (r_33 h).trans (qcmp_ifn qc1)
theorem r_33_2 (h : q_prog id pc = some ((33, a, 2, w, im, tl), len)) : Rn d id (pc, L, .int x :: s, c, n, M) o = if x < nI 0 then Rn d id (a, L, s, c, n, M) o else Rn d id (pc + len, L, s, c, n, M) o := (r_33 h).trans (qcmp_if rfl)
theorem r_33_3 (h : q_prog id pc = some ((33, a, 3, w, im, tl), len)) : Rn d id (pc, L, .int x :: s, c, n, M) o = if x < nI 0 then Rn d id (pc + len, L, s, c, n, M) o else Rn d id (a, L, s, c, n, M) o := (r_33 h).trans (qcmp_ifn rfl)
theorem r_33_4 (h : q_prog id pc = some ((33, a, 4, w, im, tl), len)) : Rn d id (pc, L, .int x :: s, c, n, M) o = if nI 0 < x then Rn d id (a, L, s, c, n, M) o else Rn d id (pc + len, L, s, c, n, M) o := (r_33 h).trans (qcmp_if rfl)
theorem r_33_5 (h : q_prog id pc = some ((33, a, 5, w, im, tl), len)) : Rn d id (pc, L, .int x :: s, c, n, M) o = if nI 0 < x then Rn d id (pc + len, L, s, c, n, M) o else Rn d id (a, L, s, c, n, M) o := (r_33 h).trans (qcmp_ifn rfl)
theorem r_34 (h : q_prog id pc = some ((34, a, b, w, im, tl), len)) : Rn d id (pc, L, .ref r :: s, c, n, M) o = Rn d id (pc + len, L, s, c, n, M) o := Rn_step h rfl rfl
theorem r_35 (h : q_prog id pc = some ((35, a, b, w, im, tl), len)) : Rn d id (pc, L, .ref r :: s, c, n, M) o = Rn d id (a, L, s, c, n, M) o := Rn_step h rfl rfl
theorem r_36 (h : q_prog id pc = some ((36, a, b, w, im, tl), len)) : Rn d id (pc, L, .int x :: s, c, n, M) o = Rn d id (qsw tl a x, L, s, c, n, M) o := Rn_step h rfl rfl
theorem r_37 (h : q_prog id pc = some ((37, a, b, w, im, tl), len)) : Rn d id (pc, L, .int x :: s, c, n, M) o = Rn d id (qlk tl a x, L, s, c, n, M) o := Rn_step h rfl rfl
theorem r_38 (h : q_prog id pc = some ((38, a, b, w, im, tl), len)) (hs : qS M r = (1, b)) : Rn d id (pc, L, .ref r :: s, c, n, M) o = Rn d id (pc + len, L, .int (qI M r w) :: s, c, n, M) o := Rn_step h rfl (qif_t hs)
theorem r_39 (h : q_prog id pc = some ((39, a, b, w, im, tl), len)) (hs : qS M r = (1, b)) : Rn d id (pc, L, .ref r :: s, c, n, M) o = Rn d id (pc + len, L, va_rf (qR M r w) :: s, c, n, M) o := Rn_step h rfl (qif_t hs)
theorem r_40 (h : q_prog id pc = some ((40, a, b, w, im, tl), len)) (hs : qS M r = (1, b)) : Rn d id (pc, L, .int x :: .ref r :: s, c, n, M) o = Rn d id (pc + len, L, s, c, n, pI M r w x) o := Rn_step h rfl (qif_t hs)
theorem r_41 (h : q_prog id pc = some ((41, a, b, w, im, tl), len)) (hs : qS M r = (1, b)) (h1 : q01 x) : Rn d id (pc, L, .int x :: .ref r :: s, c, n, M) o = Rn d id (pc + len, L, s, c, n, pI M r w x) o := Rn_step h rfl (qif_t ⟨hs, h1⟩)
theorem r_42 {q : Nat} (h : q_prog id pc = some ((42, a, b, w, im, tl), len)) (hs : qS M r = (1, b)) : Rn d id (pc, L, .ref q :: .ref r :: s, c, n, M) o = Rn d id (pc + len, L, s, c, n, pR M r w (some q)) o := Rn_step h rfl (qif_t hs)
theorem r_43 (h : q_prog id pc = some ((43, a, b, w, im, tl), len)) (hs : (qS M r).1 = 2 ∨ (qS M r).1 = 7) (hi : vp_in i (qS M r).2) : Rn d id (pc, L, .int i :: .ref r :: s, c, n, M) o = Rn d id (pc + len, L, .int (qI M r i.toNatClampNeg) :: s, c, n, M) o := Rn_step h rfl (qif_t ⟨hs, hi⟩)
theorem r_44 (h : q_prog id pc = some ((44, a, b, w, im, tl), len)) (hs : (qS M r).1 = 2) (hi : vp_in i (qS M r).2) : Rn d id (pc, L, .int x :: .int i :: .ref r :: s, c, n, M) o = Rn d id (pc + len, L, s, c, n, pI M r i.toNatClampNeg x) o := Rn_step h rfl (qif_t ⟨hs, hi⟩)
theorem r_45 (h : q_prog id pc = some ((45, a, b, w, im, tl), len)) (hs : (qS M r).1 = 3) (hi : vp_in i (qS M r).2) : Rn d id (pc, L, .int i :: .ref r :: s, c, n, M) o = Rn d id (pc + len, L, .int (qI M r i.toNatClampNeg) :: s, c, n, M) o := Rn_step h rfl (qif_t ⟨hs, hi⟩)
theorem r_46 (h : q_prog id pc = some ((46, a, b, w, im, tl), len)) (hs : (qS M r).1 = 3) (hi : vp_in i (qS M r).2) : Rn d id (pc, L, .int x :: .int i :: .ref r :: s, c, n, M) o = Rn d id (pc + len, L, s, c, n, pI M r i.toNatClampNeg (qnar x)) o := Rn_step h rfl (qif_t ⟨hs, hi⟩)
theorem r_47 (h : q_prog id pc = some ((47, a, b, w, im, tl), len)) (hs : (qS M r).1 = 4 ∨ (qS M r).1 = 5 ∨ (qS M r).1 = 6) (hi : vp_in i (qS M r).2) : Rn d id (pc, L, .int i :: .ref r :: s, c, n, M) o = Rn d id (pc + len, L, va_rf (qR M r i.toNatClampNeg) :: s, c, n, M) o := Rn_step h rfl (qif_t ⟨hs, hi⟩)
theorem r_48 {q : Nat} (h : q_prog id pc = some ((48, a, b, w, im, tl), len)) (hs : ((qS M r).1 = 4 ∧ qS M q = (1, 3)) ∨ ((qS M r).1 = 5 ∧ qS M q = (1, 5))) (hi : vp_in i (qS M r).2) : Rn d id (pc, L, .ref q :: .int i :: .ref r :: s, c, n, M) o = Rn d id (pc + len, L, s, c, n, pR M r i.toNatClampNeg (some q)) o := Rn_step h rfl (qif_t ⟨hs, hi⟩)
theorem r_49 (h : q_prog id pc = some ((49, a, b, w, im, tl), len)) (h1 : 2 ≤ (qS M r).1) (h2 : (qS M r).1 ≤ 7) : Rn d id (pc, L, .ref r :: s, c, n, M) o = Rn d id (pc + len, L, .int (nI (qS M r).2) :: s, c, n, M) o := Rn_step h rfl (qif_t ⟨h1, h2⟩)
theorem r_50 (h : q_prog id pc = some ((50, a, b, w, im, tl), len)) {mc ms : Nat} (hm : (q_meth id).2.2.2.2.2.2.1 = mc) (hn : (q_meth id).2.2.2.2.2.2.2 = ms) (h1 : c + 1 ≤ mc) (h2 : n + w ≤ ms) : Rn d id (pc, L, s, c, n, M) o = Rn d id (pc + len, L, .ref (qZ M) :: s, c + 1, n + w, pN M (1, b)) o := by subst hm; subst hn; exact Rn_step h rfl (qif_t ⟨h1, h2⟩)
theorem r_51 (h : q_prog id pc = some ((51, a, b, w, im, tl), len)) {mc ms : Nat} (hm : (q_meth id).2.2.2.2.2.2.1 = mc) (hn : (q_meth id).2.2.2.2.2.2.2 = ms) (hi : vp_in x 1000) (h1 : c + 1 ≤ mc) (h2 : n + x.toNatClampNeg ≤ ms) : Rn d id (pc, L, .int x :: s, c, n, M) o = Rn d id (pc + len, L, .ref (qZ M) :: s, c + 1, n + x.toNatClampNeg, pN M (b, x.toNatClampNeg)) o := by subst hm; subst hn; exact Rn_step h rfl (qif_t ⟨hi, h1, h2⟩)
theorem r_52 (h : q_prog id pc = some ((52, a, b, w, im, tl), len)) {mc ms : Nat} (hm : (q_meth id).2.2.2.2.2.2.1 = mc) (hn : (q_meth id).2.2.2.2.2.2.2 = ms) (hi : vp_in x 1000) (h1 : c + 1 ≤ mc) (h2 : n + x.toNatClampNeg ≤ ms) : Rn d id (pc, L, .int x :: s, c, n, M) o = Rn d id (pc + len, L, .ref (qZ M) :: s, c + 1, n + x.toNatClampNeg, pN M (b, x.toNatClampNeg)) o := by subst hm; subst hn; exact Rn_step h rfl (qif_t ⟨hi, h1, h2⟩)
theorem r_53 (h : q_prog id pc = some ((53, a, b, w, im, tl), len)) {mc ms : Nat} (hm : (q_meth id).2.2.2.2.2.2.1 = mc) (hn : (q_meth id).2.2.2.2.2.2.2 = ms) (hi : vp_in x 1000) (hj : vp_in y 1000) (h1 : c + (1 + y.toNatClampNeg) ≤ mc) (h2 : n + (y.toNatClampNeg + y.toNatClampNeg * x.toNatClampNeg) ≤ ms) : Rn d id (pc, L, .int x :: .int y :: s, c, n, M) o = Rn d id (pc + len, L, .ref (qZ M) :: s, c + 1 + y.toNatClampNeg, n + y.toNatClampNeg + y.toNatClampNeg * x.toNatClampNeg, pMN M y.toNatClampNeg x.toNatClampNeg) o := by subst hm; subst hn; exact Rn_step h rfl (qif_t ⟨hi, hj, h1, h2⟩)
theorem r_55 (h : q_prog id pc = some ((55, a, b, w, im, tl), len)) : Rn d id (pc, L, .int x :: [], c, n, M) o = (o = (some (.int x), M)) := Rn_ret h rfl rfl
theorem r_56 (h : q_prog id pc = some ((56, a, b, w, im, tl), len)) : Rn d id (pc, L, [], c, n, M) o = (o = (none, M)) := Rn_ret h rfl rfl
theorem r_57 (h : q_prog id pc = some ((57, a, b, w, im, tl), len)) : Rn d id (pc, L, .ref r :: [], c, n, M) o = (o = (some (.ref r), M)) := Rn_ret h rfl rfl
theorem r_58 (h : q_prog id pc = some ((58, a, b, w, im, tl), len)) (hl : Nat.ble s.length 4 = true) : Rn d id (pc, L, .ref r :: s, c, n, M) o = Rn d id (pc + len, L, s, c, n, M) o := Rn_step h rfl (qif_t (Nat.le_of_ble_eq_true hl))
theorem r_59 (h : q_prog id pc = some ((59, a, b, w, im, tl), len)) : Rn d id (pc, L, s, c, n, M) o = Rn d id (pc + len, L, .ref (qT M) :: s, c, n, M) o := Rn_step h rfl rfl
theorem r_60 (h : q_prog id pc = some ((60, a, b, w, im, tl), len)) (hr : r = qT M) (hl : Nat.ble s.length 4 = true) : Rn d id (pc, L, .ref r :: s, c, n, M) o = Rn d id (pc + len, L, .int (nI 82) :: s, c, n, M) o := Rn_step h rfl (qif_t ⟨hr, Nat.le_of_ble_eq_true hl⟩)
theorem r_61 (h : q_prog id pc = some ((61, a, b, w, im, tl), len)) (hr : r = qT M) (hi : vp_in i 82) (hl : Nat.ble s.length 4 = true) : Rn d id (pc, L, .int i :: .ref r :: s, c, n, M) o = Rn d id (pc + len, L, .int (nI (q_txt.getD i.toNatClampNeg 0)) :: s, c, n, M) o := Rn_step h rfl (qif_t ⟨hr, hi, Nat.le_of_ble_eq_true hl⟩)
theorem r_65 (h : q_prog id pc = some ((65, a, b, w, im, tl), len)) (hl : Nat.ble s.length 4 = true) : Rn d id (pc, L, .int y :: .int x :: s, c, n, M) o = Rn d id (pc + len, L, .int (if x < y then y else x) :: s, c, n, M) o := Rn_step h rfl (qif_t (Nat.le_of_ble_eq_true hl))
theorem r_66 (h : q_prog id pc = some ((66, a, b, w, im, tl), len)) (hl : Nat.ble s.length 4 = true) : Rn d id (pc, L, .int y :: .int x :: s, c, n, M) o = Rn d id (pc + len, L, .int (if y < x then y else x) :: s, c, n, M) o := Rn_step h rfl (qif_t (Nat.le_of_ble_eq_true hl))
theorem r_67 (h : q_prog id pc = some ((67, a, b, w, im, tl), len)) (hl : Nat.ble s.length 4 = true) : Rn d id (pc, L, .int x :: s, c, n, M) o = Rn d id (pc + len, L, .int (if 0 ≤ x then x else 0 - x) :: s, c, n, M) o := Rn_step h rfl (qif_t (Nat.le_of_ble_eq_true hl))
theorem r_62 (h : q_prog id pc = some ((62, a, b, w, im, tl), len)) (h1 : q01 x) : Rn d id (pc, L, .int x :: [], c, n, M) o = (o = (some (.int x), M)) := Rn_ret h rfl (qif_t h1)
end QROW
