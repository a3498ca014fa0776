/-! THE JUDGEMENT: from a frame of method k at pc, with whole numbers in place of ints, the method ends, and what it leaves is Q -/
def zR (a : Int) : Prop := -2147483648 ≤ a ∧ a < 2147483648
theorem zii_toInt {a : Int} (h : zR a) : (zii a).toInt = a := Int32.toInt_ofInt_of_le (by have := h.1; omega) (by have := h.2; omega)
theorem zii_lt {a b : Int} (ha : zR a) (hb : zR b) : zii a < zii b ↔ a < b := by rw [Int32.lt_iff_toInt_lt, zii_toInt ha, zii_toInt hb]
theorem zii_le {a b : Int} (ha : zR a) (hb : zR b) : zii a ≤ zii b ↔ a ≤ b := by rw [Int32.le_iff_toInt_le, zii_toInt ha, zii_toInt hb]
theorem zii_eq {a b : Int} (ha : zR a) (hb : zR b) : zii a = zii b ↔ a = b := by rw [← Int32.toInt_inj, zii_toInt ha, zii_toInt hb]
theorem zii_0 : zii 0 = 0 := rfl
theorem zR_0 : zR 0 := by unfold zR; omega
theorem zii_eq0 {a : Int} (ha : zR a) : zii a = 0 ↔ a = 0 := zii_eq ha zR_0
theorem zii_lt0 {a : Int} (ha : zR a) : zii a < 0 ↔ a < 0 := zii_lt ha zR_0
theorem zii_le0 {a : Int} (ha : zR a) : zii a ≤ 0 ↔ a ≤ 0 := zii_le ha zR_0
theorem zii_gt0 {a : Int} (ha : zR a) : 0 < zii a ↔ 0 < a := zii_lt zR_0 ha
theorem zii_ge0 {a : Int} (ha : zR a) : 0 ≤ zii a ↔ 0 ≤ a := zii_le zR_0 ha
theorem zii_of (x : Int32) : x = zii x.toInt := (Int32.ofInt_toInt x).symm
theorem zR_toInt (x : Int32) : zR x.toInt := ⟨by have := Int32.le_toInt x; omega, by have := Int32.toInt_lt x; omega⟩
def zRL (a : Int) : Prop := -9223372036854775808 ≤ a ∧ a < 9223372036854775808
theorem zll_toInt {a : Int} (h : zRL a) : (zll a).toInt = a := Int64.toInt_ofInt_of_le (by have := h.1; omega) (by have := h.2; omega)
theorem zll_of (x : Int64) : x = zll x.toInt := (Int64.ofInt_toInt x).symm
theorem zidx {a : Int} {n : Nat} (h0 : 0 ≤ a) (h1 : a < n) (hn : n < 2147483648) : vp_in (zii a) n ∧ (((zii a).toNatClampNeg : Nat) : Int) = a := by
  have hr : zR a := ⟨by omega, by omega⟩
  refine ⟨vp_in_iff.mpr (by rw [zii_toInt hr]; omega), ?_⟩
  show ((zii a).toInt.toNat : Int) = a
  rw [zii_toInt hr]
  omega
def zand (a b : Int) : Int := (zii a &&& zii b).toInt
def zor (a b : Int) : Int := (zii a ||| zii b).toInt
def zxor (a b : Int) : Int := (zii a ^^^ zii b).toInt
def zshl (a b : Int) : Int := (zii a <<< (zii b &&& 31)).toInt
def zshr (a b : Int) : Int := (zii a >>> (zii b &&& 31)).toInt
def zushr (a b : Int) : Int := ((zii a).toUInt32 >>> ((zii b).toUInt32 &&& Int32.toUInt32 31)).toInt32.toInt
def zdiv (a b : Int) : Int := (zii a / zii b).toInt
def zrem (a b : Int) : Int := (zii a - zii a / zii b * zii b).toInt
def zldiv (a b : Int) : Int := (zll a / zll b).toInt
def zlrem (a b : Int) : Int := (zll a - zll a / zll b * zll b).toInt
def zcmp (a b : Int) : Int := (lg_cmp (zll a) (zll b)).toInt
def zrv (ad : Nat → Nat) : Value → Value
  | .ref p => .ref (ad p)
  | v => v
theorem zrv_cat (ad : Nat → Nat) (v : Value) : (zrv ad v).category = v.category := by cases v <;> rfl
def zrm (d : Nat) : Room := { frames := d, cells := 0, slots := 0, locals := 36 * d }
def zL (ad : Nat → Nat) (ls : Array Slot) (nL : Nat) (lo : List (Option Value)) : Prop := ls.size = nL ∧ lv_wf ls ∧ ∀ (i : Nat) (v : Value), lo[i]? = some (some v) → ls[i]? = some (Slot.val (zrv ad v))
def zC (ad : Nat → Nat) (dC : Nat → ClassId) (dI : Nat → Nat → Nat) (cA : ClassId) (k : zMD) (p : Program) (s : State) (m : MethodId) (args : Array Value) (meth : Method) (c : Code) : Prop :=
  p.tables.exec = Jvm.exec ∧ c.code = k.2.1 ∧ meth.sig.returnType = k.2.2.2 ∧ c.maxLocals = k.2.2.1 ∧ s.vm.findClass k.1.cls = some m.cls ∧ (∀ w ∈ zt, w.before args s = true) ∧ meth.locks = false ∧ va_K (dC, dI) vwCl [(cA, .int)] s ∧ zInj ad ∧ (∀ w ∈ zn, va_Nw w s)
def zQ (ad : Nat → Nat) (dC : Nat → ClassId) (dI : Nat → Nat → Nat) (cA : ClassId) (Q : Option Value → zMem → Prop) : Array Value → State → Outcome → State → Prop := fun _ st o t =>
  (∃ (r : Option Value) (M' : zMem), o = .returned (r.map (zrv ad)) ∧ Q r M' ∧ va_P (dC, dI) vwCl (zws ad cA M') t.heap) ∧ va_F (zA ad) st t
def zX (k : zMD) (d pc : Nat) (lo : List (Option Value)) (st : List Value) (M : zMem) (Q : Option Value → zMem → Prop) : Prop :=
  ∀ (ad : Nat → Nat) (dC : Nat → ClassId) (dI : Nat → Nat → Nat) (cA : ClassId) (p : Program) (l : Launch) (e : Env) (s : State) (m : MethodId) (args : Array Value) (below : List Frame) (meth : Method) (c : Code) (H : Heap) (locs : List Loc) (ls : Array Slot),
    zC ad dC dI cA k p s m args meth c → va_P (dC, dI) vwCl (zws ad cA M) H → va_S (zA ad) s.heap H locs → zL ad ls k.2.2.1 lo →
    W p l e (zrm d) s m args below meth c H locs 0 0 (MQ below (zQ ad dC dI cA Q) args s 0 0 (zA ad)) (F0 m pc ls (st.map (zrv ad)))
/-- an instruction of k at pc, n bytes long; the next is at nx -/
def zI (k : zMD) (pc : Nat) (i : Instr) (n nx : Nat) : Prop := decode k.2.1 pc = .ok (i, n) ∧ nx = pc + n
def zRet (v : Value) (M0 : zMem) : Option Value → zMem → Prop := fun r M' => r = some v ∧ M' = M0
def zVoid (M0 : zMem) : Option Value → zMem → Prop := fun r M' => r = none ∧ M' = M0
section ZX
variable {k : zMD} {d pc nx : Nat} {lo : List (Option Value)} {st : List Value} {M : zMem} {Q : Option Value → zMem → Prop}
theorem X_weak {lo' : List (Option Value)} (hw : ∀ (i : Nat) (v : Value), lo'[i]? = some (some v) → lo[i]? = some (some v)) (h : zX k d pc lo' st M Q) : zX k d pc lo st M Q := fun ad dC dI cA p l e s m args below meth c H locs ls hC hP hS hL => h ad dC dI cA p l e s m args below meth c H locs ls hC hP hS ⟨hL.1, hL.2.1, fun i v hv => hL.2.2 i v (hw i v hv)⟩
theorem X_eq {lo' : List (Option Value)} {st' : List Value} {M' : zMem} (h : zX k d pc lo' st' M' Q) (e1 : lo' = lo) (e2 : st' = st) (e3 : M' = M) : zX k d pc lo st M Q := by subst e1; subst e2; subst e3; exact h
theorem X_post {Q' : Option Value → zMem → Prop} (h : zX k d pc lo st M Q') (hq : ∀ r M', Q' r M' → Q r M') : zX k d pc lo st M Q := by
  intro ad dC dI cA p l e s m args below meth c H locs ls hC hP hS hL T hT X
  obtain ⟨t, a, o, b1, b2, b3, b4⟩ := h ad dC dI cA p l e s m args below meth c H locs ls hC hP hS hL T hT X
  obtain ⟨⟨r, M', c1, c2, c3⟩, c4⟩ := b3
  exact ⟨t, a, o, b1, b2, ⟨⟨r, M', c1, hq r M' c2, c3⟩, c4⟩, b4⟩

theorem X_iadd {a b : Int} (hi : zI k pc .iadd 1 nx) (h : zX k d nx lo (.int (zii (a + b)) :: st) M Q) : zX k d pc lo (.int (zii b) :: .int (zii a) :: st) M Q := by
  intro ad dC dI cA p l e s m args below meth c H locs ls hC hP hS hL
  have kk := h ad dC dI cA p l e s m args below meth c H locs ls hC hP hS hL
  obtain ⟨hd, rfl⟩ := hi
  obtain ⟨hx, hb, hr, hml, hown, hts, hlk, hK, hinj, hnw⟩ := hC
  refine lv_iadd hx hb hd ?_
  rw [show zii a + zii b = zii (a + b) from (Int32.ofInt_add a b).symm]
  exact kk
theorem X_isub {a b : Int} (hi : zI k pc .isub 1 nx) (h : zX k d nx lo (.int (zii (a - b)) :: st) M Q) : zX k d pc lo (.int (zii b) :: .int (zii a) :: st) M Q := by
  intro ad dC dI cA p l e s m args below meth c H locs ls hC hP hS hL
  have kk := h ad dC dI cA p l e s m args below meth c H locs ls hC hP hS hL
  obtain ⟨hd, rfl⟩ := hi
  obtain ⟨hx, hb, hr, hml, hown, hts, hlk, hK, hinj, hnw⟩ := hC
  refine lv_isub hx hb hd ?_
  rw [show zii a - zii b = zii (a - b) from (Int32.ofInt_sub a b).symm]
  exact kk
theorem X_imul {a b : Int} (hi : zI k pc .imul 1 nx) (h : zX k d nx lo (.int (zii (a * b)) :: st) M Q) : zX k d pc lo (.int (zii b) :: .int (zii a) :: st) M Q := by
  intro ad dC dI cA p l e s m args below meth c H locs ls hC hP hS hL
  have kk := h ad dC dI cA p l e s m args below meth c H locs ls hC hP hS hL
  obtain ⟨hd, rfl⟩ := hi
  obtain ⟨hx, hb, hr, hml, hown, hts, hlk, hK, hinj, hnw⟩ := hC
  refine lv_imul hx hb hd ?_
  rw [show zii a * zii b = zii (a * b) from (Int32.ofInt_mul a b).symm]
  exact kk
theorem X_iand {a b : Int} (hi : zI k pc .iand 1 nx) (h : zX k d nx lo (.int (zii (zand a b)) :: st) M Q) : zX k d pc lo (.int (zii b) :: .int (zii a) :: st) M Q := by
  intro ad dC dI cA p l e s m args below meth c H locs ls hC hP hS hL
  have kk := h ad dC dI cA p l e s m args below meth c H locs ls hC hP hS hL
  obtain ⟨hd, rfl⟩ := hi
  obtain ⟨hx, hb, hr, hml, hown, hts, hlk, hK, hinj, hnw⟩ := hC
  refine lv_iand hx hb hd ?_
  rw [show zii a &&& zii b = zii (zand a b) from zii_of _]
  exact kk
theorem X_ior {a b : Int} (hi : zI k pc .ior 1 nx) (h : zX k d nx lo (.int (zii (zor a b)) :: st) M Q) : zX k d pc lo (.int (zii b) :: .int (zii a) :: st) M Q := by
  intro ad dC dI cA p l e s m args below meth c H locs ls hC hP hS hL
  have kk := h ad dC dI cA p l e s m args below meth c H locs ls hC hP hS hL
  obtain ⟨hd, rfl⟩ := hi
  obtain ⟨hx, hb, hr, hml, hown, hts, hlk, hK, hinj, hnw⟩ := hC
  refine lv_ior hx hb hd ?_
  rw [show zii a ||| zii b = zii (zor a b) from zii_of _]
  exact kk
theorem X_ixor {a b : Int} (hi : zI k pc .ixor 1 nx) (h : zX k d nx lo (.int (zii (zxor a b)) :: st) M Q) : zX k d pc lo (.int (zii b) :: .int (zii a) :: st) M Q := by
  intro ad dC dI cA p l e s m args below meth c H locs ls hC hP hS hL
  have kk := h ad dC dI cA p l e s m args below meth c H locs ls hC hP hS hL
  obtain ⟨hd, rfl⟩ := hi
  obtain ⟨hx, hb, hr, hml, hown, hts, hlk, hK, hinj, hnw⟩ := hC
  refine lv_ixor hx hb hd ?_
  rw [show zii a ^^^ zii b = zii (zxor a b) from zii_of _]
  exact kk
theorem X_ishl {a b : Int} (hi : zI k pc .ishl 1 nx) (h : zX k d nx lo (.int (zii (zshl a b)) :: st) M Q) : zX k d pc lo (.int (zii b) :: .int (zii a) :: st) M Q := by
  intro ad dC dI cA p l e s m args below meth c H locs ls hC hP hS hL
  have kk := h ad dC dI cA p l e s m args below meth c H locs ls hC hP hS hL
  obtain ⟨hd, rfl⟩ := hi
  obtain ⟨hx, hb, hr, hml, hown, hts, hlk, hK, hinj, hnw⟩ := hC
  refine lv_ishl hx hb hd ?_
  rw [show zii a <<< (zii b &&& 31) = zii (zshl a b) from zii_of _]
  exact kk
theorem X_ishr {a b : Int} (hi : zI k pc .ishr 1 nx) (h : zX k d nx lo (.int (zii (zshr a b)) :: st) M Q) : zX k d pc lo (.int (zii b) :: .int (zii a) :: st) M Q := by
  intro ad dC dI cA p l e s m args below meth c H locs ls hC hP hS hL
  have kk := h ad dC dI cA p l e s m args below meth c H locs ls hC hP hS hL
  obtain ⟨hd, rfl⟩ := hi
  obtain ⟨hx, hb, hr, hml, hown, hts, hlk, hK, hinj, hnw⟩ := hC
  refine lv_ishr hx hb hd ?_
  rw [show zii a >>> (zii b &&& 31) = zii (zshr a b) from zii_of _]
  exact kk
theorem X_iushr {a b : Int} (hi : zI k pc .iushr 1 nx) (h : zX k d nx lo (.int (zii (zushr a b)) :: st) M Q) : zX k d pc lo (.int (zii b) :: .int (zii a) :: st) M Q := by
  intro ad dC dI cA p l e s m args below meth c H locs ls hC hP hS hL
  have kk := h ad dC dI cA p l e s m args below meth c H locs ls hC hP hS hL
  obtain ⟨hd, rfl⟩ := hi
  obtain ⟨hx, hb, hr, hml, hown, hts, hlk, hK, hinj, hnw⟩ := hC
  refine lv_iushr hx hb hd (v := zii (zushr a b)) (zii_of _) ?_
  
  exact kk
theorem X_idiv {a b : Int} (hi : zI k pc .idiv 1 nx) (hb0 : zR b) (hne : b ≠ 0) (h : zX k d nx lo (.int (zii (zdiv a b)) :: st) M Q) : zX k d pc lo (.int (zii b) :: .int (zii a) :: st) M Q := by
  intro ad dC dI cA p l e s m args below meth c H locs ls hC hP hS hL
  have kk := h ad dC dI cA p l e s m args below meth c H locs ls hC hP hS hL
  obtain ⟨hd, rfl⟩ := hi
  obtain ⟨hx, hb, hr, hml, hown, hts, hlk, hK, hinj, hnw⟩ := hC
  refine lv_idiv hx hb hd (fun z => hne ((zii_eq0 hb0).mp z)) ?_
  rw [show zii a / zii b = zii (zdiv a b) from zii_of _]
  exact kk
theorem X_irem {a b : Int} (hi : zI k pc .irem 1 nx) (hb0 : zR b) (hne : b ≠ 0) (h : zX k d nx lo (.int (zii (zrem a b)) :: st) M Q) : zX k d pc lo (.int (zii b) :: .int (zii a) :: st) M Q := by
  intro ad dC dI cA p l e s m args below meth c H locs ls hC hP hS hL
  have kk := h ad dC dI cA p l e s m args below meth c H locs ls hC hP hS hL
  obtain ⟨hd, rfl⟩ := hi
  obtain ⟨hx, hb, hr, hml, hown, hts, hlk, hK, hinj, hnw⟩ := hC
  refine lv_irem hx hb hd (fun z => hne ((zii_eq0 hb0).mp z)) ?_
  rw [show zii a - zii a / zii b * zii b = zii (zrem a b) from zii_of _]
  exact kk
theorem X_ladd {a b : Int} (hi : zI k pc .ladd 1 nx) (h : zX k d nx lo (.long (zll (a + b)) :: st) M Q) : zX k d pc lo (.long (zll b) :: .long (zll a) :: st) M Q := by
  intro ad dC dI cA p l e s m args below meth c H locs ls hC hP hS hL
  have kk := h ad dC dI cA p l e s m args below meth c H locs ls hC hP hS hL
  obtain ⟨hd, rfl⟩ := hi
  obtain ⟨hx, hb, hr, hml, hown, hts, hlk, hK, hinj, hnw⟩ := hC
  refine lv_ladd hx hb hd ?_
  rw [show zll a + zll b = zll (a + b) from (Int64.ofInt_add a b).symm]
  exact kk
theorem X_lsub {a b : Int} (hi : zI k pc .lsub 1 nx) (h : zX k d nx lo (.long (zll (a - b)) :: st) M Q) : zX k d pc lo (.long (zll b) :: .long (zll a) :: st) M Q := by
  intro ad dC dI cA p l e s m args below meth c H locs ls hC hP hS hL
  have kk := h ad dC dI cA p l e s m args below meth c H locs ls hC hP hS hL
  obtain ⟨hd, rfl⟩ := hi
  obtain ⟨hx, hb, hr, hml, hown, hts, hlk, hK, hinj, hnw⟩ := hC
  refine lv_lsub hx hb hd ?_
  rw [show zll a - zll b = zll (a - b) from (Int64.ofInt_sub a b).symm]
  exact kk
theorem X_lmul {a b : Int} (hi : zI k pc .lmul 1 nx) (h : zX k d nx lo (.long (zll (a * b)) :: st) M Q) : zX k d pc lo (.long (zll b) :: .long (zll a) :: st) M Q := by
  intro ad dC dI cA p l e s m args below meth c H locs ls hC hP hS hL
  have kk := h ad dC dI cA p l e s m args below meth c H locs ls hC hP hS hL
  obtain ⟨hd, rfl⟩ := hi
  obtain ⟨hx, hb, hr, hml, hown, hts, hlk, hK, hinj, hnw⟩ := hC
  refine lv_lmul hx hb hd ?_
  rw [show zll a * zll b = zll (a * b) from (Int64.ofInt_mul a b).symm]
  exact kk
theorem X_ldiv {a b : Int} (hi : zI k pc .ldiv 1 nx) (hb0 : zRL b) (hne : b ≠ 0) (h : zX k d nx lo (.long (zll (zldiv a b)) :: st) M Q) : zX k d pc lo (.long (zll b) :: .long (zll a) :: st) M Q := by
  intro ad dC dI cA p l e s m args below meth c H locs ls hC hP hS hL
  have kk := h ad dC dI cA p l e s m args below meth c H locs ls hC hP hS hL
  obtain ⟨hd, rfl⟩ := hi
  obtain ⟨hx, hb, hr, hml, hown, hts, hlk, hK, hinj, hnw⟩ := hC
  refine lv_ldiv hx hb hd (fun z => hne (by have := congrArg Int64.toInt z; rw [zll_toInt hb0] at this; exact this)) ?_
  rw [show zll a / zll b = zll (zldiv a b) from zll_of _]
  exact kk
theorem X_lrem {a b : Int} (hi : zI k pc .lrem 1 nx) (hb0 : zRL b) (hne : b ≠ 0) (h : zX k d nx lo (.long (zll (zlrem a b)) :: st) M Q) : zX k d pc lo (.long (zll b) :: .long (zll a) :: st) M Q := by
  intro ad dC dI cA p l e s m args below meth c H locs ls hC hP hS hL
  have kk := h ad dC dI cA p l e s m args below meth c H locs ls hC hP hS hL
  obtain ⟨hd, rfl⟩ := hi
  obtain ⟨hx, hb, hr, hml, hown, hts, hlk, hK, hinj, hnw⟩ := hC
  refine lv_lrem hx hb hd (fun z => hne (by have := congrArg Int64.toInt z; rw [zll_toInt hb0] at this; exact this)) ?_
  rw [show zll a - zll a / zll b * zll b = zll (zlrem a b) from zll_of _]
  exact kk
theorem X_lcmp {a b : Int} (hi : zI k pc .lcmp 1 nx) (h : zX k d nx lo (.int (zii (zcmp a b)) :: st) M Q) : zX k d pc lo (.long (zll b) :: .long (zll a) :: st) M Q := by
  intro ad dC dI cA p l e s m args below meth c H locs ls hC hP hS hL
  have kk := h ad dC dI cA p l e s m args below meth c H locs ls hC hP hS hL
  obtain ⟨hd, rfl⟩ := hi
  obtain ⟨hx, hb, hr, hml, hown, hts, hlk, hK, hinj, hnw⟩ := hC
  refine W.lcmp hx hb hd ?_
  rw [show lg_cmp (zll a) (zll b) = zii (zcmp a b) from zii_of _]
  exact kk
theorem X_ineg {a : Int} (hi : zI k pc .ineg 1 nx) (h : zX k d nx lo (.int (zii (-a)) :: st) M Q) : zX k d pc lo (.int (zii a) :: st) M Q := by
  intro ad dC dI cA p l e s m args below meth c H locs ls hC hP hS hL
  have kk := h ad dC dI cA p l e s m args below meth c H locs ls hC hP hS hL
  obtain ⟨hd, rfl⟩ := hi
  obtain ⟨hx, hb, hr, hml, hown, hts, hlk, hK, hinj, hnw⟩ := hC
  refine lv_ineg hx hb hd ?_
  rw [show -zii a = zii (-a) from (Int32.ofInt_neg a).symm]
  exact kk
theorem X_i2l {a : Int} (hi : zI k pc .i2l 1 nx) (ha : zR a) (h : zX k d nx lo (.long (zll a) :: st) M Q) : zX k d pc lo (.int (zii a) :: st) M Q := by
  intro ad dC dI cA p l e s m args below meth c H locs ls hC hP hS hL
  have kk := h ad dC dI cA p l e s m args below meth c H locs ls hC hP hS hL
  obtain ⟨hd, rfl⟩ := hi
  obtain ⟨hx, hb, hr, hml, hown, hts, hlk, hK, hinj, hnw⟩ := hC
  exact lv_i2l hx hb hd (v := zll a) (Int64.toInt_inj.mp (by rw [Int32.toInt_toInt64, zii_toInt ha, zll_toInt ⟨by have := ha.1; omega, by have := ha.2; omega⟩])) kk
theorem X_iconst {n : Int} (hi : zI k pc (.iconst n) 1 nx) (h : zX k d nx lo (.int (zii n) :: st) M Q) : zX k d pc lo st M Q := by
  intro ad dC dI cA p l e s m args below meth c H locs ls hC hP hS hL
  have kk := h ad dC dI cA p l e s m args below meth c H locs ls hC hP hS hL
  obtain ⟨hd, rfl⟩ := hi
  obtain ⟨hx, hb, hr, hml, hown, hts, hlk, hK, hinj, hnw⟩ := hC
  exact lv_iconst hx hb hd rfl kk
theorem X_bipush {n : Int} (hi : zI k pc (.bipush n) 2 nx) (hn : (Int8.ofInt n).toInt32 = zii n) (h : zX k d nx lo (.int (zii n) :: st) M Q) : zX k d pc lo st M Q := by
  intro ad dC dI cA p l e s m args below meth c H locs ls hC hP hS hL
  have kk := h ad dC dI cA p l e s m args below meth c H locs ls hC hP hS hL
  obtain ⟨hd, rfl⟩ := hi
  obtain ⟨hx, hb, hr, hml, hown, hts, hlk, hK, hinj, hnw⟩ := hC
  exact lv_bipush hx hb hd hn kk
theorem X_sipush {n : Int} (hi : zI k pc (.sipush n) 3 nx) (hn : (Int16.ofInt n).toInt32 = zii n) (h : zX k d nx lo (.int (zii n) :: st) M Q) : zX k d pc lo st M Q := by
  intro ad dC dI cA p l e s m args below meth c H locs ls hC hP hS hL
  have kk := h ad dC dI cA p l e s m args below meth c H locs ls hC hP hS hL
  obtain ⟨hd, rfl⟩ := hi
  obtain ⟨hx, hb, hr, hml, hown, hts, hlk, hK, hinj, hnw⟩ := hC
  exact lv_sipush hx hb hd hn kk
theorem X_lconst {n : Fin 2} {x : Int} (hi : zI k pc (.lconst n) 1 nx) (hn : Int64.ofNat (n : Nat) = zll x) (h : zX k d nx lo (.long (zll x) :: st) M Q) : zX k d pc lo st M Q := by
  intro ad dC dI cA p l e s m args below meth c H locs ls hC hP hS hL
  have kk := h ad dC dI cA p l e s m args below meth c H locs ls hC hP hS hL
  obtain ⟨hd, rfl⟩ := hi
  obtain ⟨hx, hb, hr, hml, hown, hts, hlk, hK, hinj, hnw⟩ := hC
  exact lv_lconst hx hb hd hn kk
theorem X_ldc {j : Nat} {v : Int32} {x : Int} (hi : zI k pc (.ldc j) 2 nx) (hw : Cond.constant k.1.cls j v ∈ zt) (hn : v = zii x) (h : zX k d nx lo (.int (zii x) :: st) M Q) : zX k d pc lo st M Q := by
  subst hn
  intro ad dC dI cA p l e s m args below meth c H locs ls hC hP hS hL
  have kk := h ad dC dI cA p l e s m args below meth c H locs ls hC hP hS hL
  obtain ⟨hd, rfl⟩ := hi
  obtain ⟨hx, hb, hr, hml, hown, hts, hlk, hK, hinj, hnw⟩ := hC
  exact lv_ldc hx hb hown (hts _ hw) hd kk
theorem X_ldcw {j : Nat} {v : Int32} {x : Int} (hi : zI k pc (.ldc_w j) 3 nx) (hw : Cond.constant k.1.cls j v ∈ zt) (hn : v = zii x) (h : zX k d nx lo (.int (zii x) :: st) M Q) : zX k d pc lo st M Q := by
  subst hn
  intro ad dC dI cA p l e s m args below meth c H locs ls hC hP hS hL
  have kk := h ad dC dI cA p l e s m args below meth c H locs ls hC hP hS hL
  obtain ⟨hd, rfl⟩ := hi
  obtain ⟨hx, hb, hr, hml, hown, hts, hlk, hK, hinj, hnw⟩ := hC
  exact lv_ldcw hx hb hown (hts _ hw) hd kk
theorem X_ldc2 {j : Nat} {v : Int64} {x : Int} (hi : zI k pc (.ldc2_w j) 3 nx) (hw : Cond.constantLong k.1.cls j v ∈ zt) (hn : v = zll x) (h : zX k d nx lo (.long (zll x) :: st) M Q) : zX k d pc lo st M Q := by
  subst hn
  intro ad dC dI cA p l e s m args below meth c H locs ls hC hP hS hL
  have kk := h ad dC dI cA p l e s m args below meth c H locs ls hC hP hS hL
  obtain ⟨hd, rfl⟩ := hi
  obtain ⟨hx, hb, hr, hml, hown, hts, hlk, hK, hinj, hnw⟩ := hC
  exact lv_ldc2 hx hb hown (hts _ hw) hd kk
theorem X_dup {v : Value} (hi : zI k pc .dup 1 nx) (hv : v.category = 1) (h : zX k d nx lo (v :: v :: st) M Q) : zX k d pc lo (v :: st) M Q := by
  intro ad dC dI cA p l e s m args below meth c H locs ls hC hP hS hL
  have kk := h ad dC dI cA p l e s m args below meth c H locs ls hC hP hS hL
  obtain ⟨hd, rfl⟩ := hi
  obtain ⟨hx, hb, hr, hml, hown, hts, hlk, hK, hinj, hnw⟩ := hC
  exact lv_dup hx hb hd (by rw [zrv_cat]; exact hv) kk
theorem X_pop {v : Value} (hi : zI k pc .pop 1 nx) (hv : v.category = 1) (h : zX k d nx lo st M Q) : zX k d pc lo (v :: st) M Q := by
  intro ad dC dI cA p l e s m args below meth c H locs ls hC hP hS hL
  have kk := h ad dC dI cA p l e s m args below meth c H locs ls hC hP hS hL
  obtain ⟨hd, rfl⟩ := hi
  obtain ⟨hx, hb, hr, hml, hown, hts, hlk, hK, hinj, hnw⟩ := hC
  exact lv_pop hx hb hd (by rw [zrv_cat]; exact hv) kk
theorem X_dup2 {v w : Value} (hi : zI k pc .dup2 1 nx) (hv : v.category = 1) (hw : w.category = 1) (h : zX k d nx lo (v :: w :: v :: w :: st) M Q) : zX k d pc lo (v :: w :: st) M Q := by
  intro ad dC dI cA p l e s m args below meth c H locs ls hC hP hS hL
  have kk := h ad dC dI cA p l e s m args below meth c H locs ls hC hP hS hL
  obtain ⟨hd, rfl⟩ := hi
  obtain ⟨hx, hb, hr, hml, hown, hts, hlk, hK, hinj, hnw⟩ := hC
  exact lv_dup2_11 hx hb hd (by rw [zrv_cat]; exact hv) (by rw [zrv_cat]; exact hw) kk
theorem X_goto {off : Int} {tgt : Nat} (hi : zI k pc (.goto off) 3 nx) (ht : (pc : Int) + off = (tgt : Int)) (h : zX k d tgt lo st M Q) : zX k d pc lo st M Q := by
  intro ad dC dI cA p l e s m args below meth c H locs ls hC hP hS hL
  have kk := h ad dC dI cA p l e s m args below meth c H locs ls hC hP hS hL
  obtain ⟨hd, rfl⟩ := hi
  obtain ⟨hx, hb, hr, hml, hown, hts, hlk, hK, hinj, hnw⟩ := hC
  exact lv_goto hx hb hd ht kk
theorem X_icmp_eq {a b off : Int} {tgt : Nat} (hi : zI k pc (.if_icmp .eq off) 3 nx) (hj : (pc : Int) + off = (tgt : Int)) (ha : zR a) (hb9 : zR b) (ht : a = b → zX k d tgt lo st M Q) (hf : ¬ (a = b) → zX k d nx lo st M Q) : zX k d pc lo (.int (zii b) :: .int (zii a) :: st) M Q := by
  intro ad dC dI cA p l e s m args below meth c H locs ls hC hP hS hL
  obtain ⟨hd, rfl⟩ := hi
  have hC2 := hC
  obtain ⟨hx, hb, hr, hml, hown, hts, hlk, hK, hinj, hnw⟩ := hC
  exact lv_icmp_eq hx hb hd hj (fun z => ht ((zii_eq ha hb9).mp z) ad dC dI cA p l e s m args below meth c H locs ls hC2 hP hS hL) (fun z => hf (fun q => z ((zii_eq ha hb9).mpr q)) ad dC dI cA p l e s m args below meth c H locs ls hC2 hP hS hL)
theorem X_if_eq {a off : Int} {tgt : Nat} (hi : zI k pc (.ifCond .eq off) 3 nx) (hj : (pc : Int) + off = (tgt : Int)) (ha : zR a) (ht : a = 0 → zX k d tgt lo st M Q) (hf : ¬ (a = 0) → zX k d nx lo st M Q) : zX k d pc lo (.int (zii a) :: st) M Q := by
  intro ad dC dI cA p l e s m args below meth c H locs ls hC hP hS hL
  obtain ⟨hd, rfl⟩ := hi
  have hC2 := hC
  obtain ⟨hx, hb, hr, hml, hown, hts, hlk, hK, hinj, hnw⟩ := hC
  exact lv_if_eq hx hb hd hj (fun z => ht ((zii_eq0 ha).mp z) ad dC dI cA p l e s m args below meth c H locs ls hC2 hP hS hL) (fun z => hf (fun q => z ((zii_eq0 ha).mpr q)) ad dC dI cA p l e s m args below meth c H locs ls hC2 hP hS hL)
theorem X_icmp_ne {a b off : Int} {tgt : Nat} (hi : zI k pc (.if_icmp .ne off) 3 nx) (hj : (pc : Int) + off = (tgt : Int)) (ha : zR a) (hb9 : zR b) (ht : ¬ a = b → zX k d tgt lo st M Q) (hf : ¬ (¬ a = b) → zX k d nx lo st M Q) : zX k d pc lo (.int (zii b) :: .int (zii a) :: st) M Q := by
  intro ad dC dI cA p l e s m args below meth c H locs ls hC hP hS hL
  obtain ⟨hd, rfl⟩ := hi
  have hC2 := hC
  obtain ⟨hx, hb, hr, hml, hown, hts, hlk, hK, hinj, hnw⟩ := hC
  exact lv_icmp_ne hx hb hd hj (fun z => ht (fun q => z ((zii_eq ha hb9).mpr q)) ad dC dI cA p l e s m args below meth c H locs ls hC2 hP hS hL) (fun z => hf (fun q => q ((zii_eq ha hb9).mp z)) ad dC dI cA p l e s m args below meth c H locs ls hC2 hP hS hL)
theorem X_if_ne {a off : Int} {tgt : Nat} (hi : zI k pc (.ifCond .ne off) 3 nx) (hj : (pc : Int) + off = (tgt : Int)) (ha : zR a) (ht : ¬ a = 0 → zX k d tgt lo st M Q) (hf : ¬ (¬ a = 0) → zX k d nx lo st M Q) : zX k d pc lo (.int (zii a) :: st) M Q := by
  intro ad dC dI cA p l e s m args below meth c H locs ls hC hP hS hL
  obtain ⟨hd, rfl⟩ := hi
  have hC2 := hC
  obtain ⟨hx, hb, hr, hml, hown, hts, hlk, hK, hinj, hnw⟩ := hC
  exact lv_if_ne hx hb hd hj (fun z => ht (fun q => z ((zii_eq0 ha).mpr q)) ad dC dI cA p l e s m args below meth c H locs ls hC2 hP hS hL) (fun z => hf (fun q => q ((zii_eq0 ha).mp z)) ad dC dI cA p l e s m args below meth c H locs ls hC2 hP hS hL)
theorem X_icmp_lt {a b off : Int} {tgt : Nat} (hi : zI k pc (.if_icmp .lt off) 3 nx) (hj : (pc : Int) + off = (tgt : Int)) (ha : zR a) (hb9 : zR b) (ht : a < b → zX k d tgt lo st M Q) (hf : ¬ (a < b) → zX k d nx lo st M Q) : zX k d pc lo (.int (zii b) :: .int (zii a) :: st) M Q := by
  intro ad dC dI cA p l e s m args below meth c H locs ls hC hP hS hL
  obtain ⟨hd, rfl⟩ := hi
  have hC2 := hC
  obtain ⟨hx, hb, hr, hml, hown, hts, hlk, hK, hinj, hnw⟩ := hC
  exact lv_icmp_lt hx hb hd hj (fun z => ht ((zii_lt ha hb9).mp z) ad dC dI cA p l e s m args below meth c H locs ls hC2 hP hS hL) (fun z => hf (fun q => z ((zii_lt ha hb9).mpr q)) ad dC dI cA p l e s m args below meth c H locs ls hC2 hP hS hL)
theorem X_if_lt {a off : Int} {tgt : Nat} (hi : zI k pc (.ifCond .lt off) 3 nx) (hj : (pc : Int) + off = (tgt : Int)) (ha : zR a) (ht : a < 0 → zX k d tgt lo st M Q) (hf : ¬ (a < 0) → zX k d nx lo st M Q) : zX k d pc lo (.int (zii a) :: st) M Q := by
  intro ad dC dI cA p l e s m args below meth c H locs ls hC hP hS hL
  obtain ⟨hd, rfl⟩ := hi
  have hC2 := hC
  obtain ⟨hx, hb, hr, hml, hown, hts, hlk, hK, hinj, hnw⟩ := hC
  exact lv_if_lt hx hb hd hj (fun z => ht ((zii_lt0 ha).mp z) ad dC dI cA p l e s m args below meth c H locs ls hC2 hP hS hL) (fun z => hf (fun q => z ((zii_lt0 ha).mpr q)) ad dC dI cA p l e s m args below meth c H locs ls hC2 hP hS hL)
theorem X_icmp_ge {a b off : Int} {tgt : Nat} (hi : zI k pc (.if_icmp .ge off) 3 nx) (hj : (pc : Int) + off = (tgt : Int)) (ha : zR a) (hb9 : zR b) (ht : b ≤ a → zX k d tgt lo st M Q) (hf : ¬ (b ≤ a) → zX k d nx lo st M Q) : zX k d pc lo (.int (zii b) :: .int (zii a) :: st) M Q := by
  intro ad dC dI cA p l e s m args below meth c H locs ls hC hP hS hL
  obtain ⟨hd, rfl⟩ := hi
  have hC2 := hC
  obtain ⟨hx, hb, hr, hml, hown, hts, hlk, hK, hinj, hnw⟩ := hC
  exact lv_icmp_ge hx hb hd hj (fun z => ht ((zii_le hb9 ha).mp z) ad dC dI cA p l e s m args below meth c H locs ls hC2 hP hS hL) (fun z => hf (fun q => z ((zii_le hb9 ha).mpr q)) ad dC dI cA p l e s m args below meth c H locs ls hC2 hP hS hL)
theorem X_if_ge {a off : Int} {tgt : Nat} (hi : zI k pc (.ifCond .ge off) 3 nx) (hj : (pc : Int) + off = (tgt : Int)) (ha : zR a) (ht : 0 ≤ a → zX k d tgt lo st M Q) (hf : ¬ (0 ≤ a) → zX k d nx lo st M Q) : zX k d pc lo (.int (zii a) :: st) M Q := by
  intro ad dC dI cA p l e s m args below meth c H locs ls hC hP hS hL
  obtain ⟨hd, rfl⟩ := hi
  have hC2 := hC
  obtain ⟨hx, hb, hr, hml, hown, hts, hlk, hK, hinj, hnw⟩ := hC
  exact lv_if_ge hx hb hd hj (fun z => ht ((zii_ge0 ha).mp z) ad dC dI cA p l e s m args below meth c H locs ls hC2 hP hS hL) (fun z => hf (fun q => z ((zii_ge0 ha).mpr q)) ad dC dI cA p l e s m args below meth c H locs ls hC2 hP hS hL)
theorem X_icmp_gt {a b off : Int} {tgt : Nat} (hi : zI k pc (.if_icmp .gt off) 3 nx) (hj : (pc : Int) + off = (tgt : Int)) (ha : zR a) (hb9 : zR b) (ht : b < a → zX k d tgt lo st M Q) (hf : ¬ (b < a) → zX k d nx lo st M Q) : zX k d pc lo (.int (zii b) :: .int (zii a) :: st) M Q := by
  intro ad dC dI cA p l e s m args below meth c H locs ls hC hP hS hL
  obtain ⟨hd, rfl⟩ := hi
  have hC2 := hC
  obtain ⟨hx, hb, hr, hml, hown, hts, hlk, hK, hinj, hnw⟩ := hC
  exact lv_icmp_gt hx hb hd hj (fun z => ht ((zii_lt hb9 ha).mp z) ad dC dI cA p l e s m args below meth c H locs ls hC2 hP hS hL) (fun z => hf (fun q => z ((zii_lt hb9 ha).mpr q)) ad dC dI cA p l e s m args below meth c H locs ls hC2 hP hS hL)
theorem X_if_gt {a off : Int} {tgt : Nat} (hi : zI k pc (.ifCond .gt off) 3 nx) (hj : (pc : Int) + off = (tgt : Int)) (ha : zR a) (ht : 0 < a → zX k d tgt lo st M Q) (hf : ¬ (0 < a) → zX k d nx lo st M Q) : zX k d pc lo (.int (zii a) :: st) M Q := by
  intro ad dC dI cA p l e s m args below meth c H locs ls hC hP hS hL
  obtain ⟨hd, rfl⟩ := hi
  have hC2 := hC
  obtain ⟨hx, hb, hr, hml, hown, hts, hlk, hK, hinj, hnw⟩ := hC
  exact lv_if_gt hx hb hd hj (fun z => ht ((zii_gt0 ha).mp z) ad dC dI cA p l e s m args below meth c H locs ls hC2 hP hS hL) (fun z => hf (fun q => z ((zii_gt0 ha).mpr q)) ad dC dI cA p l e s m args below meth c H locs ls hC2 hP hS hL)
theorem X_icmp_le {a b off : Int} {tgt : Nat} (hi : zI k pc (.if_icmp .le off) 3 nx) (hj : (pc : Int) + off = (tgt : Int)) (ha : zR a) (hb9 : zR b) (ht : a ≤ b → zX k d tgt lo st M Q) (hf : ¬ (a ≤ b) → zX k d nx lo st M Q) : zX k d pc lo (.int (zii b) :: .int (zii a) :: st) M Q := by
  intro ad dC dI cA p l e s m args below meth c H locs ls hC hP hS hL
  obtain ⟨hd, rfl⟩ := hi
  have hC2 := hC
  obtain ⟨hx, hb, hr, hml, hown, hts, hlk, hK, hinj, hnw⟩ := hC
  exact lv_icmp_le hx hb hd hj (fun z => ht ((zii_le ha hb9).mp z) ad dC dI cA p l e s m args below meth c H locs ls hC2 hP hS hL) (fun z => hf (fun q => z ((zii_le ha hb9).mpr q)) ad dC dI cA p l e s m args below meth c H locs ls hC2 hP hS hL)
theorem X_if_le {a off : Int} {tgt : Nat} (hi : zI k pc (.ifCond .le off) 3 nx) (hj : (pc : Int) + off = (tgt : Int)) (ha : zR a) (ht : a ≤ 0 → zX k d tgt lo st M Q) (hf : ¬ (a ≤ 0) → zX k d nx lo st M Q) : zX k d pc lo (.int (zii a) :: st) M Q := by
  intro ad dC dI cA p l e s m args below meth c H locs ls hC hP hS hL
  obtain ⟨hd, rfl⟩ := hi
  have hC2 := hC
  obtain ⟨hx, hb, hr, hml, hown, hts, hlk, hK, hinj, hnw⟩ := hC
  exact lv_if_le hx hb hd hj (fun z => ht ((zii_le0 ha).mp z) ad dC dI cA p l e s m args below meth c H locs ls hC2 hP hS hL) (fun z => hf (fun q => z ((zii_le0 ha).mpr q)) ad dC dI cA p l e s m args below meth c H locs ls hC2 hP hS hL)
theorem X_tabIn {a dflt lw hw off : Int} {offs : Array Int} {len tgt : Nat} (hi : zI k pc (.tableswitch dflt lw hw offs) len nx) (ha : zR a) (h1 : lw ≤ a) (h2 : a ≤ hw) (ho : offs[(a - lw).toNat]? = some off) (hj : (pc : Int) + off = (tgt : Int)) (h : zX k d tgt lo st M Q) : zX k d pc lo (.int (zii a) :: st) M Q := by
  intro ad dC dI cA p l e s m args below meth c H locs ls hC hP hS hL
  have kk := h ad dC dI cA p l e s m args below meth c H locs ls hC hP hS hL
  obtain ⟨hd, rfl⟩ := hi
  obtain ⟨hx, hb, hr, hml, hown, hts, hlk, hK, hinj, hnw⟩ := hC
  exact lv_tableIn hx hb hd (by rw [zii_toInt ha]; omega) (by rw [zii_toInt ha]; omega) (by rw [zii_toInt ha]; exact ho) hj kk
theorem X_tabOut {a dflt lw hw : Int} {offs : Array Int} {len tgt : Nat} (hi : zI k pc (.tableswitch dflt lw hw offs) len nx) (ha : zR a) (h1 : a < lw ∨ hw < a) (hj : (pc : Int) + dflt = (tgt : Int)) (h : zX k d tgt lo st M Q) : zX k d pc lo (.int (zii a) :: st) M Q := by
  intro ad dC dI cA p l e s m args below meth c H locs ls hC hP hS hL
  have kk := h ad dC dI cA p l e s m args below meth c H locs ls hC hP hS hL
  obtain ⟨hd, rfl⟩ := hi
  obtain ⟨hx, hb, hr, hml, hown, hts, hlk, hK, hinj, hnw⟩ := hC
  exact lv_tableOut hx hb hd (by rw [zii_toInt ha]; exact h1) hj kk
theorem X_look {a dflt off : Int} {ps : Array (Int × Int)} {len tgt : Nat} (hi : zI k pc (.lookupswitch dflt ps) len nx) (hp : (ps.toList.zip (ps.toList.drop 1)).all (fun (a, next) => a.1 < next.1) = true) (ha : zR a) (ho : Op.lookupswitch.offset ps.toList dflt a = off) (hj : (pc : Int) + off = (tgt : Int)) (h : zX k d tgt lo st M Q) : zX k d pc lo (.int (zii a) :: st) M Q := by
  intro ad dC dI cA p l e s m args below meth c H locs ls hC hP hS hL
  have kk := h ad dC dI cA p l e s m args below meth c H locs ls hC hP hS hL
  obtain ⟨hd, rfl⟩ := hi
  obtain ⟨hx, hb, hr, hml, hown, hts, hlk, hK, hinj, hnw⟩ := hC
  exact lv_lookup hx hb hd hp (by rw [zii_toInt ha]; exact ho) hj kk
theorem X_end {v : Option Value} {H : Heap} {ad : Nat → Nat} {dC : Nat → ClassId} {dI : Nat → Nat → Nat} {cA : ClassId} {s t : State} {locs : List Loc} {args : Array Value} (hS : va_S (zA ad) s.heap H locs) (hP : va_P (dC, dI) vwCl (zws ad cA M) H) (hq : Q v M) (ht : t.heap = H) : zQ ad dC dI cA Q args s (.returned (v.map (zrv ad))) t := by
  subst ht
  exact ⟨⟨v, M, rfl, hq, hP⟩, hS.1, hS.2.1⟩
theorem X_iret {a : Int} (hi : zI k pc .ireturn 1 nx) (hr : k.2.2.2 = some .int) (hq : Q (some (.int (zii a))) M) : zX k d pc lo [.int (zii a)] M Q := by
  intro ad dC dI cA p l e s m args below meth c H locs ls hC hP hS hL
  obtain ⟨hd, -⟩ := hi
  obtain ⟨hx, hb, hr2, hml, hown, hts, hlk, hK, hinj, hnw⟩ := hC
  exact W.iret hx hb (hr2.trans hr) (fun t ht _ => X_end (v := some (.int (zii a))) hS hP hq ht) hS.2.2 hd hlk
theorem X_zret {a : Int} (hi : zI k pc .ireturn 1 nx) (hr : k.2.2.2 = some .boolean) (ha : a = 0 ∨ a = 1) (hq : Q (some (.int (zii a))) M) : zX k d pc lo [.int (zii a)] M Q := by
  intro ad dC dI cA p l e s m args below meth c H locs ls hC hP hS hL
  obtain ⟨hd, -⟩ := hi
  obtain ⟨hx, hb, hr2, hml, hown, hts, hlk, hK, hinj, hnw⟩ := hC
  exact W.zret hx hb (hr2.trans hr) (by rcases ha with rfl | rfl <;> rfl) (fun t ht _ => X_end (v := some (.int (zii a))) hS hP hq ht) hS.2.2 hd hlk
theorem X_lret {a : Int} (hi : zI k pc .lreturn 1 nx) (hr : k.2.2.2 = some .long) (hq : Q (some (.long (zll a))) M) : zX k d pc lo [.long (zll a)] M Q := by
  intro ad dC dI cA p l e s m args below meth c H locs ls hC hP hS hL
  obtain ⟨hd, -⟩ := hi
  obtain ⟨hx, hb, hr2, hml, hown, hts, hlk, hK, hinj, hnw⟩ := hC
  exact W.lret hx hb (hr2.trans hr) (fun t ht _ => X_end (v := some (.long (zll a))) hS hP hq ht) hS.2.2 hd hlk
theorem X_vret (hi : zI k pc .return_ 1 nx) (hr : k.2.2.2 = none) (hq : Q none M) : zX k d pc lo [] M Q := by
  intro ad dC dI cA p l e s m args below meth c H locs ls hC hP hS hL
  obtain ⟨hd, -⟩ := hi
  obtain ⟨hx, hb, hr2, hml, hown, hts, hlk, hK, hinj, hnw⟩ := hC
  exact W.vret hx hb (hr2.trans hr) (fun t ht _ => X_end (v := none) hS hP hq ht) hS.2.2 hd hlk

def zkill : Option Value → Option Value
  | some (.long _) => none
  | some (.double _) => none
  | x => x
def zone : Option Value → Bool
  | some (.long _) => false
  | some (.double _) => false
  | _ => true
theorem zone_cat {v : Value} (h : zone (some v) = true) : ¬ v.category = 2 := by cases v <;> simp [zone, Value.category] at h ⊢
theorem zL_pairs {ad : Nat → Nat} {ls : Array Slot} {nL : Nat} {lo : List (Option Value)} (h : zL ad ls nL lo) : ∃ l, lv_has ls nL l ∧ ∀ (i : Nat) (v : Value), lo[i]? = some (some v) → (i, zrv ad v) ∈ l := by
  refine ⟨(List.range lo.length).filterMap (fun i => match lo[i]? with | some (some v) => some (i, zrv ad v) | _ => none), ⟨h.1, h.2.1, fun q hq => ?_⟩, fun i v hv => ?_⟩
  · obtain ⟨i, -, hi⟩ := List.mem_filterMap.mp hq
    cases h9 : lo[i]? with
    | none => rw [h9] at hi; cases hi
    | some x =>
      cases x with
      | none => rw [h9] at hi; cases hi
      | some v => rw [h9] at hi; cases hi; exact h.2.2 i v h9
  · refine List.mem_filterMap.mpr ⟨i, List.mem_range.mpr (List.getElem?_eq_some_iff.mp hv).1, ?_⟩
    rw [hv]
theorem zL_store1 {ad : Nat → Nat} {ls : Array Slot} {nL i : Nat} {lo lo' : List (Option Value)} {v : Value} (h : zL ad ls nL lo) (hi : i < nL) (hc : v.category = 1) (hs : ∀ (j : Nat) (w : Value), lo'[j]? = some (some w) → (j = i ∧ w = v) ∨ (j ≠ i ∧ lo[j]? = some (some w) ∧ (j + 1 = i → ¬ w.category = 2))) : ∃ ls', storeLocals ls i (zrv ad v) = some ls' ∧ zL ad ls' nL lo' := by
  obtain ⟨l, h1, h2⟩ := zL_pairs h
  obtain ⟨ls', e, h3⟩ := lv_store1 (v := zrv ad v) h1 hi (by rw [zrv_cat]; exact hc)
  refine ⟨ls', e, h3.1, h3.2.1, fun j w hw => ?_⟩
  rcases hs j w hw with ⟨rfl, rfl⟩ | ⟨hj, hl, hk⟩
  · exact h3.2.2 (j, zrv ad w) List.mem_cons_self
  · refine h3.2.2 (j, zrv ad w) (List.mem_cons_of_mem _ (List.mem_filter.mpr ⟨h2 j w hl, ?_⟩))
    simp only [zrv_cat]
    by_cases hj1 : j + 1 = i
    · simp [hj, hk hj1]
    · simp [hj, hj1]
theorem zL_store2 {ad : Nat → Nat} {ls : Array Slot} {nL i : Nat} {lo lo' : List (Option Value)} {v : Value} (h : zL ad ls nL lo) (hi : i + 1 < nL) (hc : v.category = 2) (hs : ∀ (j : Nat) (w : Value), lo'[j]? = some (some w) → (j = i ∧ w = v) ∨ (j ≠ i ∧ j ≠ i + 1 ∧ lo[j]? = some (some w) ∧ (j + 1 = i → ¬ w.category = 2))) : ∃ ls', storeLocals ls i (zrv ad v) = some ls' ∧ zL ad ls' nL lo' := by
  obtain ⟨l, h1, h2⟩ := zL_pairs h
  obtain ⟨ls', e, h3⟩ := lv_store2 (v := zrv ad v) h1 hi (by rw [zrv_cat]; exact hc)
  refine ⟨ls', e, h3.1, h3.2.1, fun j w hw => ?_⟩
  rcases hs j w hw with ⟨rfl, rfl⟩ | ⟨hj, hj2, hl, hk⟩
  · exact h3.2.2 (j, zrv ad w) List.mem_cons_self
  · refine h3.2.2 (j, zrv ad w) (List.mem_cons_of_mem _ (List.mem_filter.mpr ⟨h2 j w hl, ?_⟩))
    simp only [zrv_cat]
    by_cases hj1 : j + 1 = i
    · simp [hj, hj2, hk hj1]
    · simp [hj, hj2, hj1]
/-- the new list of locals, as a check -/
def zst1 (i : Nat) (v : Value) : List (Option Value) → List (Option Value)
  | [] => []
  | x :: t => match i with
    | 0 => some v :: t
    | 1 => (if zone x then x else none) :: zst1 0 v t
    | i + 2 => x :: zst1 (i + 1) v t
def zst2 (i : Nat) (v : Value) : List (Option Value) → List (Option Value)
  | [] => []
  | x :: t => match i with
    | 0 => some v :: (match t with | [] => [] | _ :: u => none :: u)
    | 1 => (if zone x then x else none) :: zst2 0 v t
    | i + 2 => x :: zst2 (i + 1) v t
theorem zst1_at (v : Value) : ∀ (lo : List (Option Value)) (i j : Nat) (w : Value), (zst1 i v lo)[j]? = some (some w) → (j = i ∧ w = v) ∨ (j ≠ i ∧ lo[j]? = some (some w) ∧ (j + 1 = i → ¬ w.category = 2)) := by
  intro lo
  induction lo with
  | nil => intro i j w h; simp [zst1] at h
  | cons x t ih =>
    intro i j w h
    match i with
    | 0 =>
      cases j with
      | zero => simp [zst1] at h; exact Or.inl ⟨rfl, h.symm⟩
      | succ j => simp [zst1] at h; exact Or.inr ⟨by omega, by simpa using h, by omega⟩
    | 1 =>
      cases j with
      | zero =>
        simp only [zst1, List.getElem?_cons_zero, Option.some.injEq] at h
        by_cases hz : zone x = true
        · rw [if_pos hz] at h; subst h; exact Or.inr ⟨by omega, rfl, fun _ => zone_cat hz⟩
        · rw [if_neg hz] at h; cases h
      | succ j =>
        simp only [zst1, List.getElem?_cons_succ] at h
        rcases ih 0 j w h with ⟨a, b⟩ | ⟨a, b, c⟩
        · exact Or.inl ⟨by omega, b⟩
        · exact Or.inr ⟨by omega, by simpa using b, fun z => by omega⟩
    | i + 2 =>
      cases j with
      | zero => simp only [zst1, List.getElem?_cons_zero, Option.some.injEq] at h; exact Or.inr ⟨by omega, by simp [h], by omega⟩
      | succ j =>
        simp only [zst1, List.getElem?_cons_succ] at h
        rcases ih (i + 1) j w h with ⟨a, b⟩ | ⟨a, b, c⟩
        · exact Or.inl ⟨by omega, b⟩
        · exact Or.inr ⟨by omega, by simpa using b, fun z => c (by omega)⟩
theorem zst2_at (v : Value) : ∀ (lo : List (Option Value)) (i j : Nat) (w : Value), (zst2 i v lo)[j]? = some (some w) → (j = i ∧ w = v) ∨ (j ≠ i ∧ j ≠ i + 1 ∧ lo[j]? = some (some w) ∧ (j + 1 = i → ¬ w.category = 2)) := by
  intro lo
  induction lo with
  | nil => intro i j w h; simp [zst2] at h
  | cons x t ih =>
    intro i j w h
    match i with
    | 0 =>
      cases j with
      | zero => simp [zst2] at h; exact Or.inl ⟨rfl, h.symm⟩
      | succ j =>
        cases t with
        | nil => simp [zst2] at h
        | cons y u =>
          cases j with
          | zero => simp [zst2] at h
          | succ j => simp [zst2] at h; exact Or.inr ⟨by omega, by omega, by simpa using h, by omega⟩
    | 1 =>
      cases j with
      | zero =>
        simp only [zst2, List.getElem?_cons_zero, Option.some.injEq] at h
        by_cases hz : zone x = true
        · rw [if_pos hz] at h; subst h; exact Or.inr ⟨by omega, by omega, rfl, fun _ => zone_cat hz⟩
        · rw [if_neg hz] at h; cases h
      | succ j =>
        simp only [zst2, List.getElem?_cons_succ] at h
        rcases ih 0 j w h with ⟨a, b⟩ | ⟨a, a2, b, c⟩
        · exact Or.inl ⟨by omega, b⟩
        · exact Or.inr ⟨by omega, by omega, by simpa using b, fun z => by omega⟩
    | i + 2 =>
      cases j with
      | zero => simp only [zst2, List.getElem?_cons_zero, Option.some.injEq] at h; exact Or.inr ⟨by omega, by omega, by simp [h], by omega⟩
      | succ j =>
        simp only [zst2, List.getElem?_cons_succ] at h
        rcases ih (i + 1) j w h with ⟨a, b⟩ | ⟨a, a2, b, c⟩
        · exact Or.inl ⟨by omega, b⟩
        · exact Or.inr ⟨by omega, by omega, by simpa using b, fun z => c (by omega)⟩

theorem XG_iload {i : Nat} {a : Int} (hi : zI k pc (.iload i) 2 nx) (hl : lo[i]? = some (some (.int (zii a)))) (h : zX k d nx lo (.int (zii a) :: st) M Q) : zX k d pc lo st M Q := by
  intro ad dC dI cA p l e s m args below meth c H locs ls hC hP hS hL
  have kk := h ad dC dI cA p l e s m args below meth c H locs ls hC hP hS hL
  obtain ⟨hd, rfl⟩ := hi
  obtain ⟨hx, hb, hr, hml, hown, hts, hlk, hK, hinj, hnw⟩ := hC
  exact lv_iload hx hb hd (hL.2.2 _ _ hl) kk
theorem XG_iload_n {i : Fin 4} {a : Int} (hi : zI k pc (.iload_n i) 1 nx) (hl : lo[(i : Nat)]? = some (some (.int (zii a)))) (h : zX k d nx lo (.int (zii a) :: st) M Q) : zX k d pc lo st M Q := by
  intro ad dC dI cA p l e s m args below meth c H locs ls hC hP hS hL
  have kk := h ad dC dI cA p l e s m args below meth c H locs ls hC hP hS hL
  obtain ⟨hd, rfl⟩ := hi
  obtain ⟨hx, hb, hr, hml, hown, hts, hlk, hK, hinj, hnw⟩ := hC
  exact lv_iload_n hx hb hd rfl (hL.2.2 _ _ hl) kk
theorem XG_lload {i : Nat} {a : Int} (hi : zI k pc (.lload i) 2 nx) (hl : lo[i]? = some (some (.long (zll a)))) (h : zX k d nx lo (.long (zll a) :: st) M Q) : zX k d pc lo st M Q := by
  intro ad dC dI cA p l e s m args below meth c H locs ls hC hP hS hL
  have kk := h ad dC dI cA p l e s m args below meth c H locs ls hC hP hS hL
  obtain ⟨hd, rfl⟩ := hi
  obtain ⟨hx, hb, hr, hml, hown, hts, hlk, hK, hinj, hnw⟩ := hC
  exact lv_lload hx hb hd (hL.2.2 _ _ hl) kk
theorem XG_lload_n {i : Fin 4} {a : Int} (hi : zI k pc (.lload_n i) 1 nx) (hl : lo[(i : Nat)]? = some (some (.long (zll a)))) (h : zX k d nx lo (.long (zll a) :: st) M Q) : zX k d pc lo st M Q := by
  intro ad dC dI cA p l e s m args below meth c H locs ls hC hP hS hL
  have kk := h ad dC dI cA p l e s m args below meth c H locs ls hC hP hS hL
  obtain ⟨hd, rfl⟩ := hi
  obtain ⟨hx, hb, hr, hml, hown, hts, hlk, hK, hinj, hnw⟩ := hC
  exact lv_lload_n hx hb hd rfl (hL.2.2 _ _ hl) kk
theorem XG_aload {i : Nat} {a : Nat} (hi : zI k pc (.aload i) 2 nx) (hl : lo[i]? = some (some (.ref a))) (h : zX k d nx lo (.ref a :: st) M Q) : zX k d pc lo st M Q := by
  intro ad dC dI cA p l e s m args below meth c H locs ls hC hP hS hL
  have kk := h ad dC dI cA p l e s m args below meth c H locs ls hC hP hS hL
  obtain ⟨hd, rfl⟩ := hi
  obtain ⟨hx, hb, hr, hml, hown, hts, hlk, hK, hinj, hnw⟩ := hC
  exact lv_aload hx hb hd (hL.2.2 _ _ hl) kk
theorem XG_aload_n {i : Fin 4} {a : Nat} (hi : zI k pc (.aload_n i) 1 nx) (hl : lo[(i : Nat)]? = some (some (.ref a))) (h : zX k d nx lo (.ref a :: st) M Q) : zX k d pc lo st M Q := by
  intro ad dC dI cA p l e s m args below meth c H locs ls hC hP hS hL
  have kk := h ad dC dI cA p l e s m args below meth c H locs ls hC hP hS hL
  obtain ⟨hd, rfl⟩ := hi
  obtain ⟨hx, hb, hr, hml, hown, hts, hlk, hK, hinj, hnw⟩ := hC
  exact lv_aload_n hx hb hd rfl (hL.2.2 _ _ hl) kk
theorem XG_istore {i : Nat} {a : Int} (hi : zI k pc (.istore i) 2 nx) (hn : i < k.2.2.1) (h : zX k d nx (zst1 i (.int (zii a)) lo) st M Q) : zX k d pc lo (.int (zii a) :: st) M Q := by
  intro ad dC dI cA p l e s m args below meth c H locs ls hC hP hS hL
  obtain ⟨hd, rfl⟩ := hi
  have hC2 := hC
  obtain ⟨hx, hb, hr, hml, hown, hts, hlk, hK, hinj, hnw⟩ := hC
  obtain ⟨ls2, e2, h2⟩ := zL_store1 (v := .int (zii a)) hL hn rfl (zst1_at _ lo i)
  intro T hT X
  obtain ⟨t, a9, b9⟩ := h ad dC dI cA p l e s m args below meth c H locs ls2 hC2 hP hS h2 T hT X
  refine ⟨t, ?_, b9⟩
  simp only [zrv] at e2
  jvm_step X.here [X.here.top, ↓top_set X.here.top, hx, hb, hd, e2, zrv]
  exact a9
theorem XG_istore_n {i : Fin 4} {a : Int} (hi : zI k pc (.istore_n i) 1 nx) (hn : (i : Nat) < k.2.2.1) (h : zX k d nx (zst1 (i : Nat) (.int (zii a)) lo) st M Q) : zX k d pc lo (.int (zii a) :: st) M Q := by
  intro ad dC dI cA p l e s m args below meth c H locs ls hC hP hS hL
  obtain ⟨hd, rfl⟩ := hi
  have hC2 := hC
  obtain ⟨hx, hb, hr, hml, hown, hts, hlk, hK, hinj, hnw⟩ := hC
  obtain ⟨ls2, e2, h2⟩ := zL_store1 (v := .int (zii a)) hL hn rfl (zst1_at _ lo (i : Nat))
  intro T hT X
  obtain ⟨t, a9, b9⟩ := h ad dC dI cA p l e s m args below meth c H locs ls2 hC2 hP hS h2 T hT X
  refine ⟨t, ?_, b9⟩
  simp only [zrv] at e2
  jvm_step X.here [X.here.top, ↓top_set X.here.top, hx, hb, hd, e2, zrv]
  exact a9
theorem XG_lstore {i : Nat} {a : Int} (hi : zI k pc (.lstore i) 2 nx) (hn : i + 1 < k.2.2.1) (h : zX k d nx (zst2 i (.long (zll a)) lo) st M Q) : zX k d pc lo (.long (zll a) :: st) M Q := by
  intro ad dC dI cA p l e s m args below meth c H locs ls hC hP hS hL
  obtain ⟨hd, rfl⟩ := hi
  have hC2 := hC
  obtain ⟨hx, hb, hr, hml, hown, hts, hlk, hK, hinj, hnw⟩ := hC
  obtain ⟨ls2, e2, h2⟩ := zL_store2 (v := .long (zll a)) hL hn rfl (zst2_at _ lo i)
  intro T hT X
  obtain ⟨t, a9, b9⟩ := h ad dC dI cA p l e s m args below meth c H locs ls2 hC2 hP hS h2 T hT X
  refine ⟨t, ?_, b9⟩
  simp only [zrv] at e2
  jvm_step X.here [X.here.top, ↓top_set X.here.top, hx, hb, hd, e2, zrv]
  exact a9
theorem XG_lstore_n {i : Fin 4} {a : Int} (hi : zI k pc (.lstore_n i) 1 nx) (hn : (i : Nat) + 1 < k.2.2.1) (h : zX k d nx (zst2 (i : Nat) (.long (zll a)) lo) st M Q) : zX k d pc lo (.long (zll a) :: st) M Q := by
  intro ad dC dI cA p l e s m args below meth c H locs ls hC hP hS hL
  obtain ⟨hd, rfl⟩ := hi
  have hC2 := hC
  obtain ⟨hx, hb, hr, hml, hown, hts, hlk, hK, hinj, hnw⟩ := hC
  obtain ⟨ls2, e2, h2⟩ := zL_store2 (v := .long (zll a)) hL hn rfl (zst2_at _ lo (i : Nat))
  intro T hT X
  obtain ⟨t, a9, b9⟩ := h ad dC dI cA p l e s m args below meth c H locs ls2 hC2 hP hS h2 T hT X
  refine ⟨t, ?_, b9⟩
  simp only [zrv] at e2
  jvm_step X.here [X.here.top, ↓top_set X.here.top, hx, hb, hd, e2, zrv]
  exact a9
theorem XG_astore {i : Nat} {a : Nat} (hi : zI k pc (.astore i) 2 nx) (hn : i < k.2.2.1) (h : zX k d nx (zst1 i (.ref a) lo) st M Q) : zX k d pc lo (.ref a :: st) M Q := by
  intro ad dC dI cA p l e s m args below meth c H locs ls hC hP hS hL
  obtain ⟨hd, rfl⟩ := hi
  have hC2 := hC
  obtain ⟨hx, hb, hr, hml, hown, hts, hlk, hK, hinj, hnw⟩ := hC
  obtain ⟨ls2, e2, h2⟩ := zL_store1 (v := .ref a) hL hn rfl (zst1_at _ lo i)
  intro T hT X
  obtain ⟨t, a9, b9⟩ := h ad dC dI cA p l e s m args below meth c H locs ls2 hC2 hP hS h2 T hT X
  refine ⟨t, ?_, b9⟩
  simp only [zrv] at e2
  jvm_step X.here [X.here.top, ↓top_set X.here.top, hx, hb, hd, e2, zrv, Value.isRef]
  exact a9
theorem XG_astore_n {i : Fin 4} {a : Nat} (hi : zI k pc (.astore_n i) 1 nx) (hn : (i : Nat) < k.2.2.1) (h : zX k d nx (zst1 (i : Nat) (.ref a) lo) st M Q) : zX k d pc lo (.ref a :: st) M Q := by
  intro ad dC dI cA p l e s m args below meth c H locs ls hC hP hS hL
  obtain ⟨hd, rfl⟩ := hi
  have hC2 := hC
  obtain ⟨hx, hb, hr, hml, hown, hts, hlk, hK, hinj, hnw⟩ := hC
  obtain ⟨ls2, e2, h2⟩ := zL_store1 (v := .ref a) hL hn rfl (zst1_at _ lo (i : Nat))
  intro T hT X
  obtain ⟨t, a9, b9⟩ := h ad dC dI cA p l e s m args below meth c H locs ls2 hC2 hP hS h2 T hT X
  refine ⟨t, ?_, b9⟩
  simp only [zrv] at e2
  jvm_step X.here [X.here.top, ↓top_set X.here.top, hx, hb, hd, e2, zrv, Value.isRef]
  exact a9
theorem XG_iinc {i : Nat} {n a : Int} (hi : zI k pc (.iinc i n) 3 nx) (hn : i < k.2.2.1) (hl : lo[i]? = some (some (.int (zii a)))) (h : zX k d nx (zst1 i (.int (zii (a + n))) lo) st M Q) : zX k d pc lo st M Q := by
  intro ad dC dI cA p l e s m args below meth c H locs ls hC hP hS hL
  obtain ⟨hd, rfl⟩ := hi
  have hC2 := hC
  obtain ⟨hx, hb, hr, hml, hown, hts, hlk, hK, hinj, hnw⟩ := hC
  obtain ⟨ls2, e2, h2⟩ := zL_store1 (v := .int (zii (a + n))) hL hn rfl (zst1_at _ lo i)
  have hg := hL.2.2 _ _ hl
  intro T hT X
  obtain ⟨t, a9, b9⟩ := h ad dC dI cA p l e s m args below meth c H locs ls2 hC2 hP hS h2 T hT X
  refine ⟨t, ?_, b9⟩
  have e3 : zii a + Int32.ofInt n = zii (a + n) := (Int32.ofInt_add a n).symm
  simp only [zrv] at e2 hg
  jvm_step X.here [X.here.top, ↓top_set X.here.top, hx, hb, hd, hg, e3, e2, zrv]
  exact a9
end ZX
