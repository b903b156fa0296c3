/-! ===== A WALL'S METHODS BY ITS SLOTS ===== -/
section QCT
variable {d B a b b' i n c rw cl bl : Nat} {M : qM} {u v : qV} {o : qOut} {x y : Int32} {g dm : Nat → Nat}
theorem T_hasNail (hw : isWall M a) (hr : RW (blk M a) g b n rw cl bl dm) : Ev (d + 1) 152 [.ref a, .int x] M o = (o = (some (.int (qb (¬ x < nI 0 ∧ x < nI n))), M)) := by
  have := S_hasNail (d := d) (o := o) (x := x) (v := blk M a) hw
  rw [sB_blk] at this
  simp only [hr.1.2.2.2.2] at this
  exact this
theorem T_hasColumn (hw : isWall M a) (hr : RW (blk M a) g b n rw cl bl dm) : Ev (d + 1) 153 [.ref a, .int x] M o = (o = (some (.int (qb (¬ x < nI 0 ∧ x < nI cl))), M)) := by
  have := S_hasColumn (d := d) (o := o) (x := x) (v := blk M a) hw
  rw [sB_blk] at this
  simp only [hr.1.2.1] at this
  exact this
theorem T_cells (hw : isWall M a) (hr : RW (blk M a) g b n rw cl bl dm) : Ev (d + 1) 157 [.ref a] M o = (o = (some (.int (nI (rw * cl))), M)) := by
  have := S_cells (d := d) (o := o) (v := blk M a) hw
  rw [sB_blk, hr.1.1, hr.1.2.1, pk_mul] at this
  exact this
theorem T_hasCell (hw : isWall M a) (hr : RW (blk M a) g b n rw cl bl dm) : Ev (d + 2) 154 [.ref a, .int x] M o = (o = (some (.int (qb (¬ x < nI 0 ∧ x < nI (rw * cl)))), M)) := by
  have := S_hasCell (d := d) (o := o) (x := x) (v := blk M a) hw
  rw [sB_blk] at this
  simp only [hr.1.1, hr.1.2.1, pk_mul] at this
  exact this
theorem T_isFull (hw : isWall M a) (hr : RW (blk M a) g b n rw cl bl dm) (hn9 : n ≤ 9) : Ev (d + 1) 155 [.ref a] M o = (o = (some (.int (qb (n = 9))), M)) := by
  have := S_isFull (d := d) (o := o) (v := blk M a) hw
  rw [sB_blk] at this
  simp only [hr.1.2.2.2.2] at this
  have e : qb (¬ nI n < nI 9) = qb (n = 9) := by
    unfold qb
    by_cases c : n = 9
    · rw [if_pos c, if_pos (fun hh => by have := (nI_ltI (by omega) (by omega)).mp hh; omega)]
    · rw [if_neg c, if_neg (fun hh => hh ((nI_ltI (by omega) (by omega)).mpr (by omega)))]
  rw [e] at this
  exact this
theorem T_at (hw : isWall M a) (hi : i < 9) : Ev (d + 1) 151 [.ref a, .int (nI i)] M o = (o = (some (.ref (a + 4 + i)), M)) := S_at hw hi
theorem qb_cg {P Q : Prop} [Decidable P] [Decidable Q] (h : P ↔ Q) : qb P = qb Q := by
  unfold qb
  by_cases c : P
  · rw [if_pos c, if_pos (h.mp c)]
  · rw [if_neg c, if_neg (fun hh => c (h.mpr hh))]
theorem T_isOut (hw : isWall M a) (hr : RW (blk M a) g b n rw cl bl dm) (hn9 : n ≤ 9) (hg : GB g b) (hi : i < n) : Ev (d + 1) 134 [.ref (a + 4 + i)] M o = (o = (some (.int (qb (g (b + 19 + i) = 0))), M)) := by
  have := S_isOut (d := d) (o := o) (v := blk M a) hw (show i < 9 by omega)
  rw [sB_blk] at this
  have hgi := (hg i (by omega)).2.2.1
  have e3 := (hr.2.2.2 i hi).2.2.2.1
  rw [show qb (blk M a (4 + i) 3 < nI 1) = qb (g (b + 19 + i) = 0) from qb_cg (by rw [e3, nI_ltI (by omega) (by omega)]; omega)] at this
  exact this
theorem T_isLoose (hw : isWall M a) (hr : RW (blk M a) g b n rw cl bl dm) (hn9 : n ≤ 9) (hg : GB g b) (hi : i < n) : Ev (d + 1) 135 [.ref (a + 4 + i)] M o = (o = (some (.int (qb (0 < g (b + 19 + i) ∧ g (b + 19 + i) < 3))), M)) := by
  have := S_isLoose (d := d) (o := o) (v := blk M a) hw (show i < 9 by omega)
  rw [sB_blk] at this
  have hgi := (hg i (by omega)).2.2.1
  have e3 := (hr.2.2.2 i hi).2.2.2.1
  rw [show qb (nI 0 < blk M a (4 + i) 3 ∧ blk M a (4 + i) 3 < nI 3) = qb (0 < g (b + 19 + i) ∧ g (b + 19 + i) < 3) from qb_cg (by rw [e3, nI_ltI (by omega) (by omega), nI_ltI (by omega) (by omega)])] at this
  exact this
theorem T_deepest (hw : isWall M a) (hr : RW (blk M a) g b n rw cl bl dm) (hn9 : n ≤ 9) (hg : GB g b) (hi : i < n) : Ev (d + 2) 136 [.ref (a + 4 + i)] M o = (o = (some (.int (nI (cap (g (b + 1 + i))))), M)) := by
  have := S_deepest (d := d) (o := o) (v := blk M a) hw (show i < 9 by omega)
  rw [sB_blk] at this
  have hgi := (hg i (by omega)).1
  have e0 := (hr.2.2.2 i hi).1
  have e : n_cap (blk M a) (4 + i) = nI (cap (g (b + 1 + i))) := by
    unfold n_cap cap
    rw [e0]
    by_cases c : g (b + 1 + i) = 2
    · rw [if_pos c, if_pos (by rw [c])]
    · rw [if_neg c, if_neg (fun hh => c ((nI_eq (by omega) (by omega)).mp hh))]
  rw [e] at this
  exact this
theorem max_pull {q : Nat} (hq : q ≤ 1000) : q_max (nI 0) (nI q - nI 3 + nI 1) = nI (q - 2) := by
  by_cases c : 3 ≤ q
  · rw [pk_sub c, nI_add]
    unfold q_max
    rw [if_pos ((nI_ltI (by omega) (by omega)).mpr (by omega))]
    exact congrArg nI (by omega)
  · have : q = 0 ∨ q = 1 ∨ q = 2 := by omega
    rcases this with rfl | rfl | rfl <;> decide +kernel
theorem T_pullToLoose (hw : isWall M a) (hr : RW (blk M a) g b n rw cl bl dm) (hn9 : n ≤ 9) (hg : GB g b) (hi : i < n) : Ev (d + 1) 137 [.ref (a + 4 + i)] M o = (o = (some (.int (nI (g (b + 19 + i) - 2))), M)) := by
  have := S_pullToLoose (d := d) (o := o) (v := blk M a) hw (show i < 9 by omega)
  rw [sB_blk] at this
  have hgi := (hg i (by omega)).2.2.1
  have e3 := (hr.2.2.2 i hi).2.2.2.1
  rw [e3, max_pull (by omega)] at this
  exact this
theorem T_cellOf (hw : isWall M a) (hr : RW (blk M a) g b n rw cl bl dm) (hn9 : n ≤ 9) (hi : i < n) : Ev (d + 1) 160 [.ref a, .ref (a + 4 + i)] M o = (o = (some (.int (nI (g (b + 10 + i)))), M)) := by
  have := S_cellOf (d := d) (o := o) (v := blk M a) hw (show i < 9 by omega)
  rw [sB_blk] at this
  obtain ⟨e0, e1, e2, _⟩ := hr.2.2.2 i hi
  rw [e1, e2, hr.1.2.1, pk_mul, nI_add, Nat.mul_comm, Nat.div_add_mod] at this
  exact this
theorem T_dampOf (hw : isWall M a) (hr : RW (blk M a) g b n rw cl bl dm) (hc : c < 6) : Ev (d + 1) 161 [.ref a, .int (nI c)] M o = (o = (some (.int (nI (dm c))), M)) := by
  have := S_dampOf (d := d) (o := o) (x := nI c) (v := blk M a) hw
  rw [sB_blk, w_damp_n hc, hr.2.2.1 c hc] at this
  exact this
theorem T_rowOf (hw : isWall M a) (hr : RW (blk M a) g b n rw cl bl dm) (hcl : 0 < cl ∧ cl ≤ 6) (hc : c < 100) : Ev (d + 1) 158 [.ref a, .int (nI c)] M o = (o = (some (.int (nI (c / cl))), M)) := by
  have := S_rowOf (d := d) (o := o) (x := nI c) (v := blk M a) hw hr.1.2.1 hcl.1 (by omega)
  rw [sB_blk, pk_div (by omega) hcl.1 (by omega)] at this
  exact this
theorem T_columnOf (hw : isWall M a) (hr : RW (blk M a) g b n rw cl bl dm) (hcl : 0 < cl ∧ cl ≤ 6) (hc : c < 100) : Ev (d + 1) 159 [.ref a, .int (nI c)] M o = (o = (some (.int (nI (c % cl))), M)) := by
  have := S_columnOf (d := d) (o := o) (x := nI c) (v := blk M a) hw hr.1.2.1 hcl.1 (by omega)
  rw [sB_blk, qrem_nI (by omega) hcl.1 (by omega)] at this
  exact this
theorem T_nailIn (hw : isWall M a) (hr : RW (blk M a) g b n rw cl bl dm) (hn9 : n ≤ 9) (hg : GB g b) (hc : c < 100) : Ev (d + 2) 164 [.ref a, .int (nI (c / cl)), .int (nI (c % cl))] M o = (o = (some (.int (opI (insG g b c n 0))), M)) := by
  have := S_nailIn (d := d) (o := o) (v := blk M a) (r := nI (c / cl)) (c := nI (c % cl)) hw hr.1.2.2.2.2 hn9
  rw [sB_blk, tie_nin hr hn9 hg hc] at this
  exact this
theorem T_isFree (hw : isWall M a) (hr : RW (blk M a) g b n rw cl bl dm) (hn9 : n ≤ 9) (hg : GB g b) (hcl : 0 < cl ∧ cl ≤ 6) (hc : c < 100) : Ev (d + 3) 156 [.ref a, .int (nI c)] M o = (o = (some (.int (qb (insG g b c n 0 = none))), M)) := by
  have := S_isFree (d := d) (o := o) (x := nI c) (v := blk M a) hw hr.1.2.2.2.2 hn9 hr.1.2.1 hcl.1 (by omega)
  rw [sB_blk] at this
  rw [show qb (nin (blk M a) (nI c / nI cl) (qrem (nI c) (nI cl)) n 0 = -4) = qb (insG g b c n 0 = none) from qb_cg (by rw [pk_div (by omega) hcl.1 (by omega), qrem_nI (by omega) hcl.1 (by omega), tie_free hr hn9 hg hc])] at this
  exact this
theorem T_rings (hw : isWall M a) (hr : RW (blk M a) g b n rw cl bl dm) (hbl : 0 < bl ∧ bl ≤ 30) (hd : g (b + 55) < 100000) : Ev (d + 1) 165 [.ref a] M o = (o = (some (.int (qb (ringG b bl g = true))), M)) := by
  have := S_rings (d := d) (o := o) (v := blk M a) hw hr.1.2.2.1 hbl.1 (by omega)
  rw [sB_blk] at this
  rw [show qb (qrem (blk M a 0 6 + nI 1) (nI bl) = nI 0) = qb (ringG b bl g = true) from qb_cg (by rw [rings_n hr hbl hd])] at this
  exact this
theorem cnt_congr {P Q : Nat → Bool} : ∀ k i z, (∀ j, i ≤ j → j < i + k → P j = Q j) → cnt P k i z = cnt Q k i z := by
  intro k
  induction k with
  | zero => intro i z _; rfl
  | succ k ih =>
    intro i z h
    rw [cnt_s, cnt_s, h i (Nat.le_refl i) (by omega), ih (i + 1) _ (fun j h1 h2 => h j (by omega) (by omega))]
theorem T_many (hw : isWall M a) (hr : RW (blk M a) g b n rw cl bl dm) (hn9 : n ≤ 9) (hg : GB g b) : Ev (d + 2) 172 [.ref a] M o = (o = (some (.int (nI (lseN g b n))), M)) := by
  have := S_many (d := d) (o := o) (v := blk M a) hw hr.1.2.2.2.2 hn9
  rw [sB_blk] at this
  have e : cnt (w_nl (blk M a)) n 0 0 = lseN g b n := cnt_congr n 0 0 (fun j h1 h2 => decide_eq_decide.mpr (by
    have hgi := (hg j (by omega)).2.2.1
    have e3 := (hr.2.2.2 j (by omega)).2.2.2.1
    show (nI 0 < blk M a (4 + j) 3 ∧ blk M a (4 + j) 3 < nI 3) ↔ _
    rw [e3, nI_ltI (by omega) (by omega), nI_ltI (by omega) (by omega)]))
  rw [e] at this
  exact this
theorem T_outs (hw : isWall M a) (hr : RW (blk M a) g b n rw cl bl dm) (hn9 : n ≤ 9) (hg : GB g b) : Ev (d + 2) 173 [.ref a] M o = (o = (some (.int (nI (outN g b n))), M)) := by
  have := S_outs (d := d) (o := o) (v := blk M a) hw hr.1.2.2.2.2 hn9
  rw [sB_blk] at this
  have e : cnt (w_no (blk M a)) n 0 0 = outN g b n := cnt_congr n 0 0 (fun j h1 h2 => decide_eq_decide.mpr (by
    have hgi := (hg j (by omega)).2.2.1
    have e3 := (hr.2.2.2 j (by omega)).2.2.2.1
    rw [e3, nI_ltI (by omega) (by omega)]
    omega))
  rw [e] at this
  exact this
theorem T_low (hw : isWall M a) (hr : RW (blk M a) g b n rw cl bl dm) (hn9 : n ≤ 9) (hg : GB g b) : Ev (d + 2) 171 [.ref a] M o = (o = (some (.int (opI (fnd (fun i => decide (0 < g (b + 19 + i) ∧ g (b + 19 + i) < 3)) n 0))), M)) := by
  have := S_low (d := d) (o := o) (v := blk M a) hw hr.1.2.2.2.2 hn9
  rw [sB_blk] at this
  have e : w_low (blk M a) n 0 = opI (fnd (fun i => decide (0 < g (b + 19 + i) ∧ g (b + 19 + i) < 3)) n 0) := by
    have e2 : fnd (fun i => decide (lsI (blk M a) (4 + i))) n 0 = fnd (fun i => decide (0 < g (b + 19 + i) ∧ g (b + 19 + i) < 3)) n 0 := fnd_congr n 0 (fun j h1 h2 => decide_eq_decide.mpr (by
      have hgi := (hg j (by omega)).2.2.1
      have e3 := (hr.2.2.2 j (by omega)).2.2.2.1
      show (nI 0 < blk M a (4 + j) 3 ∧ blk M a (4 + j) 3 < nI 3) ↔ _
      rw [e3, nI_ltI (by omega) (by omega), nI_ltI (by omega) (by omega)]))
    unfold w_low
    rw [e2]
    cases fnd (fun i => decide (0 < g (b + 19 + i) ∧ g (b + 19 + i) < 3)) n 0 <;> rfl
  rw [e] at this
  exact this
theorem bts_congr {P Q : Nat → Bool} : ∀ k i z, (∀ j, i ≤ j → j < i + k → P j = Q j) → bts P k i z = bts Q k i z := by
  intro k
  induction k with
  | zero => intro i z _; rfl
  | succ k ih =>
    intro i z h
    show bts P k (i + 1) (if P i = true then z ||| bitI i else z) = bts Q k (i + 1) (if Q i = true then z ||| bitI i else z)
    rw [h i (Nat.le_refl i) (by omega), ih (i + 1) _ (fun j h1 h2 => h j (by omega) (by omega))]
theorem T_ncol (hw : isWall M a) (hr : RW (blk M a) g b n rw cl bl dm) (hn9 : n ≤ 9) (hg : GB g b) (hcl : 0 < cl ∧ cl ≤ 6) (hc : c < 100) : Ev (d + 2) 174 [.ref a, .int (nI c)] M o = (o = (some (.int (bts (fun q => decide (g (b + 10 + q) % cl = c)) n 0 (nI 0))), M)) := by
  have := S_ncol (d := d) (o := o) (x := nI c) (v := blk M a) hw hr.1.2.2.2.2 hn9
  rw [sB_blk] at this
  have e : bts (w_col (blk M a) (nI c)) n 0 (nI 0) = bts (fun q => decide (g (b + 10 + q) % cl = c)) n 0 (nI 0) := bts_congr n 0 (nI 0) (fun j h1 h2 => decide_eq_decide.mpr (by
    have hgi := (hg j (by omega)).2.1
    have e2 := (hr.2.2.2 j (by omega)).2.2.1
    have hm := Nat.mod_lt (g (b + 10 + j)) hcl.1
    rw [e2, nI_eq (by omega) (by omega)]))
  rw [e] at this
  exact this
theorem T_bro (hw : isWall M a) (hr : RW (blk M a) g b n rw cl bl dm) (hn9 : n ≤ 9) : Ev (d + 2) 175 [.ref a, .int x] M o = (o = (some (.int (bts (fun q => decide (¬ hasI (nI (g (b + 46 + q))) x = nI 0)) n 0 (nI 0))), M)) := by
  have := S_bro (d := d) (o := o) (x := x) (v := blk M a) hw hr.1.2.2.2.2 hn9
  rw [sB_blk] at this
  have e : bts (w_bro (blk M a) x) n 0 (nI 0) = bts (fun q => decide (¬ hasI (nI (g (b + 46 + q))) x = nI 0)) n 0 (nI 0) := bts_congr n 0 (nI 0) (fun j h1 h2 => decide_eq_decide.mpr (by
    have e6 := (hr.2.2.2 j (by omega)).2.2.2.2.2.2
    rw [e6]))
  rw [e] at this
  exact this
end QCT
