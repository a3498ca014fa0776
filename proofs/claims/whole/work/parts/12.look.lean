def zRetE (v : Value) (M : zMem) (m : Nat) : Option Value → zMem → Prop := fun r M' => r = some v ∧ ∃ C, M' = zs M m C
theorem zre {a b : Int} {M : zMem} {m : Nat} {C : zAft} (h : a = b) : zRetE (.int (zii b)) M m (some (.int (zii a))) (zs M m C) := ⟨by rw [h], C, rfl⟩
theorem zrel {a b : Int} {M : zMem} {m : Nat} {C : zAft} (h : a = b) : zRetE (.long (zll b)) M m (some (.long (zll a))) (zs M m C) := ⟨by rw [h], C, rfl⟩
theorem Y_callVe {k k' : zMD} {d d' pc nx : Nat} {lo : List (Option Value)} {st stk : List Value} {M M0 : zMem} {Q : Option Value → zMem → Prop} {idx ci n q m : Nat} {vs : List Value} {v : Value} (hi : zI k pc (.invokevirtual idx) 3 nx) (hl : zML k.1.cls idx k'.1) (hm : zMV k' ci n) (hct : zCt k' d' (.ref q :: vs) M (zRetE v M0 m)) (hq : zob q = some ci) (hs : stk = vs.reverse ++ .ref q :: st) (hn : vs.length = n) (hd' : Nat.ble (d' + 1) d = true) (hst : Nat.ble ((st.map fun v => v.category).sum) 8 = true) (h : ∀ C, zX k d nx lo (v :: st) (zs M0 m C) Q) : zX k d pc lo stk M Q :=
  X_callV hi hl hm hq hct hs hn (Nat.le_of_ble_eq_true hd') (Nat.le_of_ble_eq_true hst) (fun r M9 e => by obtain ⟨rfl, C, rfl⟩ := e; exact h C)
def s9 (x : Nat) : Int := if x = 100 then -9 else x
def sSum (f : Nat → Int) : Nat → Int
  | 0 => 0
  | n + 1 => sSum f n + f n
-- greatest common divisors
theorem zll_inj {a b : Int} (ha : zRL a) (hb : zRL b) : zll a = zll b ↔ a = b := by rw [← Int64.toInt_inj, zll_toInt ha, zll_toInt hb]
theorem zcmp_in {a b : Int} (ha : zRL a) (hb : zRL b) : (zcmp a b = 0 ↔ a = b) ∧ -1 ≤ zcmp a b ∧ zcmp a b ≤ 1 := by
  unfold zcmp lg_cmp
  have e := zll_inj ha hb
  split
  next h =>
    have h2 : (zll b).toInt < (zll a).toInt := Int64.lt_iff_toInt_lt.mp h
    rw [zll_toInt ha, zll_toInt hb] at h2
    have e1 : (1 : Int32).toInt = 1 := by decide
    rw [e1]; omega
  next h =>
    split
    next h1 =>
      have e1 : (0 : Int32).toInt = 0 := by decide
      rw [e1]
      exact ⟨⟨fun _ => e.mp h1, fun _ => rfl⟩, by omega, by omega⟩
    next h1 =>
      have e1 : (-1 : Int32).toInt = -1 := by decide
      rw [e1]
      exact ⟨⟨fun z => by omega, fun z => absurd (e.mpr z) h1⟩, by omega, by omega⟩
theorem zlrem_pos {a b : Nat} (ha : zRL a) (h1 : 0 < b) (hb : zRL b) : zlrem a b = ((a % b : Nat) : Int) := by
  unfold zlrem
  have ha2 : a < 2 ^ 63 := by have := ha.2; omega
  have hb2 : b < 2 ^ 63 := by have := hb.2; omega
  have e1 : zll (a : Int) = lN a := Int64.toInt_inj.mp (by rw [zll_toInt ha, pk_lT ha2])
  have e2 : zll (b : Int) = lN b := Int64.toInt_inj.mp (by rw [zll_toInt hb, pk_lT hb2])
  rw [e1, e2, pk_lRem ha2 h1 hb2, pk_lT (Nat.lt_of_le_of_lt (Nat.mod_le a b) ha2)]
theorem zldiv_pos {a b : Int} (ha : zRL a) (h0 : 0 ≤ a) (hb : zRL b) (h1 : 0 < b) : zldiv a b = a / b := by
  unfold zldiv
  rw [Int64.toInt_div_of_ne_left _ _ (by
    intro h
    have := congrArg Int64.toInt h
    rw [zll_toInt ha] at this
    have e : Int64.minValue.toInt = -9223372036854775808 := by decide
    omega), zll_toInt ha, zll_toInt hb]
  exact Int.tdiv_eq_ediv_of_nonneg h0
/-- Euclid comes to his end within n steps -/
def sE : Nat → Nat → Nat → Prop
  | 0, _, y => y = 0
  | n + 1, x, y => y = 0 ∨ sE n y (x % y)
theorem sE_two : ∀ (n x y : Nat), y < 2 ^ n → sE (2 * n) x y := by
  intro n
  induction n with
  | zero => intro x y h; show y = 0; omega
  | succ n ih =>
    intro x y h
    show y = 0 ∨ (x % y = 0 ∨ sE (2 * n) (x % y) (y % (x % y)))
    by_cases h0 : y = 0
    · exact Or.inl h0
    · refine Or.inr ?_
      by_cases h1 : x % y = 0
      · exact Or.inl h1
      · refine Or.inr (ih _ _ ?_)
        have h2 : x % y < y := Nat.mod_lt _ (by omega)
        have h3 : y % (x % y) < x % y := Nat.mod_lt _ (by omega)
        have h4 : y % (x % y) + x % y ≤ y := by
          have h5 := Nat.div_add_mod y (x % y)
          have h6 : 1 ≤ y / (x % y) := (Nat.one_le_div_iff (by omega)).mpr (by omega)
          have h7 : x % y * 1 ≤ x % y * (y / (x % y)) := Nat.mul_le_mul_left _ h6
          omega
        rw [Nat.pow_succ] at h
        omega
theorem sE_mono : ∀ (n m x y : Nat), n ≤ m → sE n x y → sE m x y := by
  intro n
  induction n with
  | zero =>
    intro m x y _ h
    have h0 : y = 0 := h
    cases m with
    | zero => exact h0
    | succ m => exact Or.inl h0
  | succ n ih =>
    intro m x y hm h
    cases m with
    | zero => omega
    | succ m =>
      rcases h with h | h
      · exact Or.inl h
      · exact Or.inr (ih m _ _ (by omega) h)
set_option maxRecDepth 100000 in
theorem c_X6_isFull_4 {M : zMem} {L : zAft} (e : M 4 = L) (h0 : 0 ≤ L 1 0 ∧ L 1 0 ≤ 96) : zCt kX6_isFull 0 [.ref 21] M (zRet (.int (zii (if 96 ≤ L 1 0 then 1 else 0))) M) := by
  subst e
  refine zMet (by decide) (Nat.le_of_ble_eq_true rfl) ?_
  show zX kX6_isFull 0 0 [some (.ref 21)] [] _ _
  refine Y_aload_0 i_X6_isFull_0 ?_
  refine Y_getI i_X6_isFull_1 f_X6_7 rfl rfl ?_
  refine Y_aload_0 i_X6_isFull_4 ?_
  refine X_getR i_X6_isFull_5 f_X6_19 rfl ?_
  refine X_alen i_X6_isFull_8 rfl (a := 96) (by decide +kernel) ?_
  refine X_icmp_lt i_X6_isFull_9 (tgt := 16) rfl ⟨by omega, by omega⟩ ⟨by omega, by omega⟩ (fun h9 => ?_) (fun h9 => ?_)
  · refine X_iconst i_X6_isFull_16 ?_
    refine X_zret i_X6_isFull_17 rfl (by omega) ?_
    exact zri (by split <;> omega)
  · refine X_iconst i_X6_isFull_12 ?_
    refine X_goto i_X6_isFull_13 (tgt := 17) rfl ?_
    refine X_zret i_X6_isFull_17 rfl (by omega) ?_
    exact zri (by split <;> omega)
set_option maxRecDepth 100000 in
theorem c_X6_at_4 {M : zMem} {L : zAft} (e : M 4 = L) (h0 : 0 ≤ L 1 0 ∧ L 1 0 ≤ 96) {x : Int} (hx : zR x) : zCt kX6_at 0 [.ref 21, .int (zii x)] M (zRet (.int (zii (if 0 ≤ x ∧ x < L 1 0 then L 0 x else -1))) M) := by
  subst e
  have hx1 := hx.1
  have hx2 := hx.2
  refine zMet (by decide) (Nat.le_of_ble_eq_true rfl) ?_
  show zX kX6_at 0 0 [some (.ref 21), some (.int (zii x))] [] _ _
  refine Y_iload_1 i_X6_at_0 ?_
  refine X_if_lt i_X6_at_1 (tgt := 21) rfl ⟨by omega, by omega⟩ (fun h1 => ?_) (fun h1 => ?_)
  · refine X_iconst i_X6_at_21 ?_
    refine X_iret i_X6_at_22 rfl ?_
    exact zri (by rw [if_neg (by omega)])
  · refine Y_iload_1 i_X6_at_4 ?_
    refine Y_aload_0 i_X6_at_5 ?_
    refine Y_getI i_X6_at_6 f_X6_7 rfl rfl ?_
    refine X_icmp_ge i_X6_at_9 (tgt := 21) rfl ⟨by omega, by omega⟩ ⟨by omega, by omega⟩ (fun h9 => ?_) (fun h9 => ?_)
    · refine X_iconst i_X6_at_21 ?_
      refine X_iret i_X6_at_22 rfl ?_
      exact zri (by rw [if_neg (by omega)])
    · refine Y_aload_0 i_X6_at_12 ?_
      refine X_getR i_X6_at_13 f_X6_19 rfl ?_
      refine Y_iload_1 i_X6_at_16 ?_
      refine Y_iald i_X6_at_17 rfl ⟨by omega, by omega⟩ rfl rfl ?_
      refine X_goto i_X6_at_18 (tgt := 22) rfl ?_
      refine X_iret i_X6_at_22 rfl ?_
      exact zri (by rw [if_pos (by omega)])
set_option maxRecDepth 100000 in
theorem c_X6_add_4 {M : zMem} {L : zAft} (h0 : 0 ≤ L 1 0 ∧ L 1 0 < 96) {x : Int} : zCt kX6_add 1 [.ref 21, .int (zii x)] ((zs M 4 L)) (zRet (.int (zii (L 1 0 + 1))) (zs M 4 (zwr (zwr L 0 (L 1 0) x) 1 0 (L 1 0 + 1)))) := by
  refine zMet (by decide) (Nat.le_of_ble_eq_true rfl) ?_
  show zX kX6_add 1 0 [some (.ref 21), some (.int (zii x))] [] _ _
  refine Y_aload_0 i_X6_add_0 ?_
  refine Y_callV (k' := kX6_isFull) i_X6_add_1 l_X6_23 m_X6_isFull (c_X6_isFull_4 (zs_self _ _ _) (by omega)) rfl rfl rfl rfl rfl ?_
  refine Y_ifq_ne i_X6_add_4 (tgt := 27) rfl  (fun h4 => by exfalso; omega) (fun h4 => ?_)
  refine Y_aload_0 i_X6_add_7 ?_
  refine X_getR i_X6_add_8 f_X6_19 rfl ?_
  refine Y_aload_0 i_X6_add_11 ?_
  refine Y_getI i_X6_add_12 f_X6_7 rfl (zg0 _ _ _ _ _) ?_
  refine Y_iload_1 i_X6_add_15 ?_
  refine Y_iast i_X6_add_16 rfl ⟨by omega, by omega⟩ rfl (zp0 _ _ _ _ _ _) ?_
  refine Y_aload_0 i_X6_add_17 ?_
  refine X_dup i_X6_add_18 rfl ?_
  refine Y_getI i_X6_add_19 f_X6_7 rfl (zga (zr1 rfl rfl)) ?_
  refine X_iconst i_X6_add_22 ?_
  refine X_iadd i_X6_add_23 ?_
  refine Y_putI i_X6_add_24 f_X6_7 rfl t_4_1 (zp0 _ _ _ _ _ _) ?_
  refine Y_aload_0 i_X6_add_27 ?_
  refine Y_getI i_X6_add_28 f_X6_7 rfl (zga zr0) ?_
  refine X_iret i_X6_add_31 rfl ?_
  exact ⟨rfl, rfl⟩
set_option maxRecDepth 100000 in
theorem c_X6_empty_4 {M : zMem} {L : zAft} : zCt kX6_empty 0 [.ref 21] ((zs M 4 L)) (zVoid (zs M 4 (zwr L 1 0 0))) := by
  refine zMet (by decide) (Nat.le_of_ble_eq_true rfl) ?_
  show zX kX6_empty 0 0 [some (.ref 21)] [] _ _
  refine Y_aload_0 i_X6_empty_0 ?_
  refine X_iconst i_X6_empty_1 ?_
  refine Y_putI i_X6_empty_2 f_X6_7 rfl t_4_1 (zp0 _ _ _ _ _ _) ?_
  refine X_vret i_X6_empty_5 rfl ?_
  exact ⟨rfl, rfl⟩
set_option maxRecDepth 100000 in
theorem c_X6_isFull_5 {M : zMem} {L : zAft} (e : M 5 = L) (h0 : 0 ≤ L 1 0 ∧ L 1 0 ≤ 12) : zCt kX6_isFull 0 [.ref 23] M (zRet (.int (zii (if 12 ≤ L 1 0 then 1 else 0))) M) := by
  subst e
  refine zMet (by decide) (Nat.le_of_ble_eq_true rfl) ?_
  show zX kX6_isFull 0 0 [some (.ref 23)] [] _ _
  refine Y_aload_0 i_X6_isFull_0 ?_
  refine Y_getI i_X6_isFull_1 f_X6_7 rfl rfl ?_
  refine Y_aload_0 i_X6_isFull_4 ?_
  refine X_getR i_X6_isFull_5 f_X6_19 rfl ?_
  refine X_alen i_X6_isFull_8 rfl (a := 12) (by decide +kernel) ?_
  refine X_icmp_lt i_X6_isFull_9 (tgt := 16) rfl ⟨by omega, by omega⟩ ⟨by omega, by omega⟩ (fun h9 => ?_) (fun h9 => ?_)
  · refine X_iconst i_X6_isFull_16 ?_
    refine X_zret i_X6_isFull_17 rfl (by omega) ?_
    exact zri (by split <;> omega)
  · refine X_iconst i_X6_isFull_12 ?_
    refine X_goto i_X6_isFull_13 (tgt := 17) rfl ?_
    refine X_zret i_X6_isFull_17 rfl (by omega) ?_
    exact zri (by split <;> omega)
set_option maxRecDepth 100000 in
theorem c_X6_at_5 {M : zMem} {L : zAft} (e : M 5 = L) (h0 : 0 ≤ L 1 0 ∧ L 1 0 ≤ 12) {x : Int} (hx : zR x) : zCt kX6_at 0 [.ref 23, .int (zii x)] M (zRet (.int (zii (if 0 ≤ x ∧ x < L 1 0 then L 0 x else -1))) M) := by
  subst e
  have hx1 := hx.1
  have hx2 := hx.2
  refine zMet (by decide) (Nat.le_of_ble_eq_true rfl) ?_
  show zX kX6_at 0 0 [some (.ref 23), some (.int (zii x))] [] _ _
  refine Y_iload_1 i_X6_at_0 ?_
  refine X_if_lt i_X6_at_1 (tgt := 21) rfl ⟨by omega, by omega⟩ (fun h1 => ?_) (fun h1 => ?_)
  · refine X_iconst i_X6_at_21 ?_
    refine X_iret i_X6_at_22 rfl ?_
    exact zri (by rw [if_neg (by omega)])
  · refine Y_iload_1 i_X6_at_4 ?_
    refine Y_aload_0 i_X6_at_5 ?_
    refine Y_getI i_X6_at_6 f_X6_7 rfl rfl ?_
    refine X_icmp_ge i_X6_at_9 (tgt := 21) rfl ⟨by omega, by omega⟩ ⟨by omega, by omega⟩ (fun h9 => ?_) (fun h9 => ?_)
    · refine X_iconst i_X6_at_21 ?_
      refine X_iret i_X6_at_22 rfl ?_
      exact zri (by rw [if_neg (by omega)])
    · refine Y_aload_0 i_X6_at_12 ?_
      refine X_getR i_X6_at_13 f_X6_19 rfl ?_
      refine Y_iload_1 i_X6_at_16 ?_
      refine Y_iald i_X6_at_17 rfl ⟨by omega, by omega⟩ rfl rfl ?_
      refine X_goto i_X6_at_18 (tgt := 22) rfl ?_
      refine X_iret i_X6_at_22 rfl ?_
      exact zri (by rw [if_pos (by omega)])
set_option maxRecDepth 100000 in
theorem c_X6_add_5 {M : zMem} {L : zAft} (h0 : 0 ≤ L 1 0 ∧ L 1 0 < 12) {x : Int} : zCt kX6_add 1 [.ref 23, .int (zii x)] ((zs M 5 L)) (zRet (.int (zii (L 1 0 + 1))) (zs M 5 (zwr (zwr L 0 (L 1 0) x) 1 0 (L 1 0 + 1)))) := by
  refine zMet (by decide) (Nat.le_of_ble_eq_true rfl) ?_
  show zX kX6_add 1 0 [some (.ref 23), some (.int (zii x))] [] _ _
  refine Y_aload_0 i_X6_add_0 ?_
  refine Y_callV (k' := kX6_isFull) i_X6_add_1 l_X6_23 m_X6_isFull (c_X6_isFull_5 (zs_self _ _ _) (by omega)) rfl rfl rfl rfl rfl ?_
  refine Y_ifq_ne i_X6_add_4 (tgt := 27) rfl  (fun h4 => by exfalso; omega) (fun h4 => ?_)
  refine Y_aload_0 i_X6_add_7 ?_
  refine X_getR i_X6_add_8 f_X6_19 rfl ?_
  refine Y_aload_0 i_X6_add_11 ?_
  refine Y_getI i_X6_add_12 f_X6_7 rfl (zg0 _ _ _ _ _) ?_
  refine Y_iload_1 i_X6_add_15 ?_
  refine Y_iast i_X6_add_16 rfl ⟨by omega, by omega⟩ rfl (zp0 _ _ _ _ _ _) ?_
  refine Y_aload_0 i_X6_add_17 ?_
  refine X_dup i_X6_add_18 rfl ?_
  refine Y_getI i_X6_add_19 f_X6_7 rfl (zga (zr1 rfl rfl)) ?_
  refine X_iconst i_X6_add_22 ?_
  refine X_iadd i_X6_add_23 ?_
  refine Y_putI i_X6_add_24 f_X6_7 rfl t_4_1 (zp0 _ _ _ _ _ _) ?_
  refine Y_aload_0 i_X6_add_27 ?_
  refine Y_getI i_X6_add_28 f_X6_7 rfl (zga zr0) ?_
  refine X_iret i_X6_add_31 rfl ?_
  exact ⟨rfl, rfl⟩
set_option maxRecDepth 100000 in
theorem c_X6_empty_5 {M : zMem} {L : zAft} : zCt kX6_empty 0 [.ref 23] ((zs M 5 L)) (zVoid (zs M 5 (zwr L 1 0 0))) := by
  refine zMet (by decide) (Nat.le_of_ble_eq_true rfl) ?_
  show zX kX6_empty 0 0 [some (.ref 23)] [] _ _
  refine Y_aload_0 i_X6_empty_0 ?_
  refine X_iconst i_X6_empty_1 ?_
  refine Y_putI i_X6_empty_2 f_X6_7 rfl t_4_1 (zp0 _ _ _ _ _ _) ?_
  refine X_vret i_X6_empty_5 rfl ?_
  exact ⟨rfl, rfl⟩
set_option maxRecDepth 100000 in
theorem c_X3_commonDivisor {M : zMem} {x y : Nat} (hx : x < 1152921504606846976) (hy : y < 1125899906842624) : zCt kX3_commonDivisor 0 [.long (zll x), .long (zll y)] M (zRet (.long (zll (Nat.gcd x y : Nat))) M) := by
  refine zMet (by decide) (Nat.le_of_ble_eq_true rfl) ?_
  show zX kX3_commonDivisor 0 0 [some (.long (zll x)), none, some (.long (zll y)), none, none, none, none, none, none, none, none] [] _ _
  have loop : ∀ (n : Nat) (i : Nat) (p q : Nat) (lx ly : Option Value), i + n = 100 → p < 1152921504606846976 → q < 1152921504606846976 → sE n p q → Nat.gcd p q = Nat.gcd x y → zX kX3_commonDivisor 0 9 [some (.long (zll x)), none, some (.long (zll y)), none, some (.long (zll p)), none, some (.long (zll q)), none, some (.int (zii i)), lx, ly] [] M (zRet (.long (zll (Nat.gcd x y : Nat))) M) := by
    intro n
    induction n with
    | zero =>
      intro i p q lx ly hg hp hq hE hgc
      have hq0 : q = 0 := hE
      refine Y_iload_8 i_X3_commonDivisor_9 ?_
      refine X_bipush i_X3_commonDivisor_11 (by decide +kernel) ?_
      refine X_icmp_ge i_X3_commonDivisor_13 (tgt := 44) rfl ⟨by omega, by omega⟩ ⟨by omega, by omega⟩ (fun h13 => ?_) (fun h13 => by exfalso; omega)
      refine Y_lload_4 i_X3_commonDivisor_44 ?_
      refine X_lret i_X3_commonDivisor_46 rfl ?_
      exact zrl (by rw [← hgc, hq0, Nat.gcd_zero_right])
    | succ n ih =>
      intro i p q lx ly hg hp hq hE hgc
      have hz := zcmp_in (a := (q : Int)) (b := 0) ⟨by omega, by omega⟩ ⟨by omega, by omega⟩
      refine Y_iload_8 i_X3_commonDivisor_9 ?_
      refine X_bipush i_X3_commonDivisor_11 (by decide +kernel) ?_
      refine X_icmp_ge i_X3_commonDivisor_13 (tgt := 44) rfl ⟨by omega, by omega⟩ ⟨by omega, by omega⟩ (fun h13 => by exfalso; omega) (fun h13 => ?_)
      refine Y_lload_6 i_X3_commonDivisor_16 ?_
      refine X_lconst i_X3_commonDivisor_18 (x := 0) rfl ?_
      refine X_lcmp i_X3_commonDivisor_19 ?_
      refine X_if_eq i_X3_commonDivisor_20 (tgt := 44) rfl ⟨by omega, by omega⟩ (fun h20 => ?_) (fun h20 => ?_)
      · refine Y_lload_4 i_X3_commonDivisor_44 ?_
        refine X_lret i_X3_commonDivisor_46 rfl ?_
        exact zrl (by rw [← hgc, show q = 0 by omega, Nat.gcd_zero_right])
      · refine Y_lload_4 i_X3_commonDivisor_23 ?_
        refine Y_lload_6 i_X3_commonDivisor_25 ?_
        refine X_lrem i_X3_commonDivisor_27 ⟨by omega, by omega⟩ (by omega) ?_
        refine Y_lstore_9 i_X3_commonDivisor_28 rfl rfl ?_
        rw [zlrem_pos (a := p) (b := q) ⟨by omega, by omega⟩ (by omega) ⟨by omega, by omega⟩]
        refine Y_lload_6 i_X3_commonDivisor_30 ?_
        refine Y_lstore_4 i_X3_commonDivisor_32 rfl rfl ?_
        refine Y_lload_9 i_X3_commonDivisor_34 ?_
        refine Y_lstore_6 i_X3_commonDivisor_36 rfl rfl ?_
        refine Y_iinc_8 i_X3_commonDivisor_38 rfl rfl ?_
        refine X_goto i_X3_commonDivisor_41 (tgt := 9) rfl ?_
        exact ih (i + 1) q (p % q) _ _ (by omega) (by omega) (Nat.lt_of_le_of_lt (Nat.mod_le p q) hp) (by rcases hE with z | z
                                                                                                          · omega
                                                                                                          · exact z) (by rw [← hgc, Nat.gcd_comm p q, Nat.gcd_rec q p]; exact Nat.gcd_comm _ _)
  refine Y_lload_0 i_X3_commonDivisor_0 ?_
  refine Y_lstore_4 i_X3_commonDivisor_1 rfl rfl ?_
  refine Y_lload_2 i_X3_commonDivisor_3 ?_
  refine Y_lstore_6 i_X3_commonDivisor_4 rfl rfl ?_
  refine X_iconst i_X3_commonDivisor_6 ?_
  refine Y_istore_8 i_X3_commonDivisor_7 rfl rfl ?_
  exact loop 100 0 x y _ _ (by omega) hx (by omega) (sE_mono 100 100 _ _ (Nat.le_refl _) (sE_two 50 x y hy)) rfl
set_option maxRecDepth 100000 in
theorem c_X3_part {M : zMem} {x y : Nat} {w : Int} (hx : x < 1152921504606846976) (hy : y < 1125899906842624) (hy0 : 0 < y) (hw : zR w) : zCt kX3_part 1 [.long (zll x), .long (zll y), .int (zii w)] M (zRet (.long (zll ((if w = 0 then (x : Int) else y) / (Nat.gcd x y : Nat)))) M) := by
  have hw1 := hw.1
  have hw2 := hw.2
  have hg0 : 0 < Nat.gcd x y := Nat.gcd_pos_of_pos_right x hy0
  have hg1 : Nat.gcd x y ≤ y := Nat.gcd_le_right x hy0
  have hz := zcmp_in (a := ((Nat.gcd x y : Nat) : Int)) (b := 0) ⟨by omega, by omega⟩ ⟨by omega, by omega⟩
  refine zMet (by decide) (Nat.le_of_ble_eq_true rfl) ?_
  show zX kX3_part 1 0 [some (.long (zll x)), none, some (.long (zll y)), none, some (.int (zii w)), none, none] [] _ _
  refine Y_lload_0 i_X3_part_0 ?_
  refine Y_lload_2 i_X3_part_1 ?_
  refine Y_callS (k' := kX3_commonDivisor) i_X3_part_2 l_X3_7 m_X3_commonDivisor (c_X3_commonDivisor hx hy) rfl rfl rfl rfl ?_
  refine Y_lstore_5 i_X3_part_5 rfl rfl ?_
  refine Y_lload_5 i_X3_part_7 ?_
  refine X_lconst i_X3_part_9 (x := 0) rfl ?_
  refine X_lcmp i_X3_part_10 ?_
  refine Y_if_ne i_X3_part_11 (tgt := 16) rfl ⟨by omega, by omega⟩ (fun h11 => ?_) (fun h11 => by exfalso; omega)
  refine Y_iload_4 i_X3_part_16 ?_
  refine Y_if_ne i_X3_part_18 (tgt := 25) rfl ⟨by omega, by omega⟩ (fun h18 => ?_) (fun h18 => ?_)
  · refine Y_lload_2 i_X3_part_25 ?_
    refine Y_lload_5 i_X3_part_26 ?_
    refine X_ldiv i_X3_part_28 ⟨by omega, by omega⟩ (by omega) ?_
    refine X_lret i_X3_part_29 rfl ?_
    exact zrl (by rw [zldiv_pos ⟨by omega, by omega⟩ (by omega) ⟨by omega, by omega⟩ (by omega), if_neg h18])
  · refine Y_lload_0 i_X3_part_21 ?_
    refine X_goto i_X3_part_22 (tgt := 26) rfl ?_
    refine Y_lload_5 i_X3_part_26 ?_
    refine X_ldiv i_X3_part_28 ⟨by omega, by omega⟩ (by omega) ?_
    refine X_lret i_X3_part_29 rfl ?_
    exact zrl (by rw [zldiv_pos ⟨by omega, by omega⟩ (by omega) ⟨by omega, by omega⟩ (by omega), if_pos h18])
set_option maxRecDepth 100000 in
theorem c_X7_lookOn {M : zMem} {A B : zAft} (e : M 0 = A) (hA : zOk 999 A) {t : Nat} (ht : t ≤ 99) : zCt kX7_lookOn 5 [.ref 31, .int (zii t)] ((zs M 1 B)) (zVoid (zs M 1 (sRun A t))) := by
  subst e
  have h6 := hA.1
  unfold zH at h6
  refine zMet (by decide) (Nat.le_of_ble_eq_true rfl) ?_
  show zX kX7_lookOn 5 0 [some (.ref 31), some (.int (zii t))] [] _ _
  refine Y_aload_0 i_X7_lookOn_0 ?_
  refine X_getR i_X7_lookOn_1 f_X7_15 rfl ?_
  refine Y_aload_0 i_X7_lookOn_4 ?_
  refine X_getR i_X7_lookOn_5 f_X7_9 rfl ?_
  refine Y_callVv (k' := kX0_copyFrom) i_X7_lookOn_8 l_X7_18 m_X0_copyFrom (c_X0_copyFrom (i := 1) (j := 0) (by omega) (by omega) rfl) rfl rfl rfl rfl rfl ?_
  refine Y_aload_0 i_X7_lookOn_11 ?_
  refine X_getR i_X7_lookOn_12 f_X7_15 rfl ?_
  refine Y_iload_1 i_X7_lookOn_15 ?_
  refine Y_callVv (k' := kX0_pass) i_X7_lookOn_16 l_X7_24 m_X0_pass (c_X0_pass (i := 1) (by omega) hA (by omega) (by omega)) rfl rfl rfl rfl rfl ?_
  refine X_vret i_X7_lookOn_19 rfl ?_
  exact ⟨rfl, rfl⟩
set_option maxRecDepth 100000 in
theorem c_X7_ofOne {M : zMem} {A B : zAft} (e : M 0 = A) (hA : zOk 999 A) {t : Nat} {x w : Int} (ht : t ≤ 99) (x0 : 0 ≤ x) (x1 : x < 6) (hw : zR w) : zCt kX7_ofOne 6 [.ref 31, .int (zii x), .int (zii t), .int (zii w)] ((zs M 1 B)) (zRetE (.int (zii (if w = 0 then sRun A t 3 x else if w = 1 then sRun A t 2 x else sRun A t 5 x))) M 1) := by
  subst e
  have h6 := hA.1
  unfold zH at h6
  have hw1 := hw.1
  have hw2 := hw.2
  refine zMet (by decide) (Nat.le_of_ble_eq_true rfl) ?_
  show zX kX7_ofOne 6 0 [some (.ref 31), some (.int (zii x)), some (.int (zii t)), some (.int (zii w))] [] _ _
  refine Y_aload_0 i_X7_ofOne_0 ?_
  refine Y_iload_2 i_X7_ofOne_1 ?_
  refine Y_callVv (k' := kX7_lookOn) i_X7_ofOne_2 l_X7_28 m_X7_lookOn (c_X7_lookOn rfl hA ht) rfl rfl rfl rfl rfl ?_
  refine Y_iload_3 i_X7_ofOne_5 ?_
  rcases (by omega : w = 0 ∨ w = 1 ∨ (w ≠ 0 ∧ w ≠ 1)) with hsw | hsw | hsw
  · refine X_look i_X7_ofOne_6 (by decide) ⟨by omega, by omega⟩ (off := 26) (by rw [hsw]; decide) (tgt := 32) rfl ?_
    refine Y_aload_0 i_X7_ofOne_32 ?_
    refine X_getR i_X7_ofOne_33 f_X7_15 rfl ?_
    refine X_getR i_X7_ofOne_36 f_X7_31 rfl ?_
    refine Y_iload_1 i_X7_ofOne_39 ?_
    refine Y_iald i_X7_ofOne_40 rfl ⟨by omega, by omega⟩ rfl (zg0 _ _ _ _ _) ?_
    refine X_iret i_X7_ofOne_41 rfl ?_
    exact zre (by simp [hsw])
  · refine X_look i_X7_ofOne_6 (by decide) ⟨by omega, by omega⟩ (off := 36) (by rw [hsw]; decide) (tgt := 42) rfl ?_
    refine Y_aload_0 i_X7_ofOne_42 ?_
    refine X_getR i_X7_ofOne_43 f_X7_15 rfl ?_
    refine X_getR i_X7_ofOne_46 f_X7_35 rfl ?_
    refine Y_iload_1 i_X7_ofOne_49 ?_
    refine Y_iald i_X7_ofOne_50 rfl ⟨by omega, by omega⟩ rfl (zg0 _ _ _ _ _) ?_
    refine X_iret i_X7_ofOne_51 rfl ?_
    exact zre (by simp [hsw])
  · refine X_look i_X7_ofOne_6 (by decide) ⟨by omega, by omega⟩ (off := 46) (by simp only [Op.lookupswitch.offset, List.find?]; first | rfl | (repeat (first | rfl | (rw [if_neg (by omega)])))) (tgt := 52) rfl ?_
    refine Y_aload_0 i_X7_ofOne_52 ?_
    refine X_getR i_X7_ofOne_53 f_X7_15 rfl ?_
    refine X_getR i_X7_ofOne_56 f_X7_38 rfl ?_
    refine Y_iload_1 i_X7_ofOne_59 ?_
    refine Y_iald i_X7_ofOne_60 rfl ⟨by omega, by omega⟩ rfl (zg0 _ _ _ _ _) ?_
    refine X_iret i_X7_ofOne_61 rfl ?_
    exact zre (by simp [hsw])
set_option maxRecDepth 100000 in
theorem c_X7_ofAll {M : zMem} {A B : zAft} (e : M 0 = A) (hA : zOk 999 A) {t : Nat} {w : Int} (ht : t ≤ 99) (hw : zR w) : zCt kX7_ofAll 6 [.ref 31, .int (zii t), .int (zii w)] ((zs M 1 B)) (zRetE (.int (zii (if w < 4 then sMany (sRun A t) w else if w = 4 then sRun A t 6 4 - A 6 4 else sTh (sRun A t) (sG A)))) M 1) := by
  subst e
  have h6 := hA.1
  unfold zH at h6
  have hw1 := hw.1
  have hw2 := hw.2
  have hO := sRun_ok hA t
  refine zMet (by decide) (Nat.le_of_ble_eq_true rfl) ?_
  show zX kX7_ofAll 6 0 [some (.ref 31), some (.int (zii t)), some (.int (zii w))] [] _ _
  refine Y_aload_0 i_X7_ofAll_0 ?_
  refine Y_iload_1 i_X7_ofAll_1 ?_
  refine Y_callVv (k' := kX7_lookOn) i_X7_ofAll_2 l_X7_28 m_X7_lookOn (c_X7_lookOn rfl hA ht) rfl rfl rfl rfl rfl ?_
  refine Y_iload_2 i_X7_ofAll_5 ?_
  refine X_iconst i_X7_ofAll_6 ?_
  refine X_icmp_ge i_X7_ofAll_7 (tgt := 19) rfl ⟨by omega, by omega⟩ ⟨by omega, by omega⟩ (fun h7 => ?_) (fun h7 => ?_)
  · refine Y_iload_2 i_X7_ofAll_19 ?_
    refine X_iconst i_X7_ofAll_20 ?_
    refine Y_icmp_ne i_X7_ofAll_21 (tgt := 42) rfl ⟨by omega, by omega⟩ ⟨by omega, by omega⟩ (fun h21 => ?_) (fun h21 => ?_)
    · refine Y_aload_0 i_X7_ofAll_42 ?_
      refine X_getR i_X7_ofAll_43 f_X7_15 rfl ?_
      refine Y_callV (k' := kX0_wholeThirst) i_X7_ofAll_46 l_X7_49 m_X0_wholeThirst (c_X0_wholeThirst (i := 1) (by omega) (zs_self _ _ _) hO) rfl rfl rfl rfl rfl ?_
      refine X_iret i_X7_ofAll_49 rfl ?_
      exact zre (by rw [if_neg (by omega), if_neg (by omega), sRun_G])
    · refine Y_aload_0 i_X7_ofAll_24 ?_
      refine X_getR i_X7_ofAll_25 f_X7_15 rfl ?_
      refine Y_getI i_X7_ofAll_28 f_X7_45 rfl (zg0 _ _ _ _ _) ?_
      refine Y_aload_0 i_X7_ofAll_31 ?_
      refine X_getR i_X7_ofAll_32 f_X7_9 rfl ?_
      refine Y_getI i_X7_ofAll_35 f_X7_45 rfl (zg1 rfl rfl) ?_
      refine X_isub i_X7_ofAll_38 ?_
      refine X_goto i_X7_ofAll_39 (tgt := 49) rfl ?_
      refine X_iret i_X7_ofAll_49 rfl ?_
      exact zre (by rw [if_neg (by omega), if_pos (by omega)])
  · refine Y_aload_0 i_X7_ofAll_10 ?_
    refine X_getR i_X7_ofAll_11 f_X7_15 rfl ?_
    refine Y_iload_2 i_X7_ofAll_14 ?_
    refine Y_callV (k' := kX0_howMany) i_X7_ofAll_15 l_X7_41 m_X0_howMany (c_X0_howMany (i := 1) (by omega) (zs_self _ _ _) hO hw) rfl rfl rfl rfl rfl ?_
    refine X_iret i_X7_ofAll_18 rfl ?_
    exact zre (by rw [if_pos (by omega)])
set_option maxRecDepth 100000 in
theorem c_X7_whenGone {M : zMem} {A B : zAft} (e : M 0 = A) (hA : zOk 999 A) {x : Int} (x0 : 0 ≤ x) (x1 : x < 6) : zCt kX7_whenGone 5 [.ref 31, .int (zii x)] ((zs M 1 B)) (zRetE (.int (zii (sFst (fun q => decide (sRun A q 3 x = 3)) 100 : Nat))) M 1) := by
  subst e
  have h6 := hA.1
  unfold zH at h6
  refine zMet (by decide) (Nat.le_of_ble_eq_true rfl) ?_
  show zX kX7_whenGone 5 0 [some (.ref 31), some (.int (zii x))] [] _ _
  refine Y_aload_0 i_X7_whenGone_0 ?_
  refine X_getR i_X7_whenGone_1 f_X7_15 rfl ?_
  refine Y_aload_0 i_X7_whenGone_4 ?_
  refine X_getR i_X7_whenGone_5 f_X7_9 rfl ?_
  refine Y_callVv (k' := kX0_copyFrom) i_X7_whenGone_8 l_X7_18 m_X0_copyFrom (c_X0_copyFrom (i := 1) (j := 0) (by omega) (by omega) rfl) rfl rfl rfl rfl rfl ?_
  refine Y_aload_0 i_X7_whenGone_11 ?_
  refine X_getR i_X7_whenGone_12 f_X7_15 rfl ?_
  refine Y_iload_1 i_X7_whenGone_15 ?_
  refine Y_callV (k' := kX0_passTillGone) i_X7_whenGone_16 l_X7_53 m_X0_passTillGone (c_X0_passTillGone (i := 1) (by omega) hA (by omega) x0 x1) rfl rfl rfl rfl rfl ?_
  refine X_iret i_X7_whenGone_19 rfl ?_
  exact zre rfl
set_option maxRecDepth 100000 in
theorem c_X7_whenAllGone {M : zMem} {A B : zAft} (e : M 0 = A) (hA : zOk 999 A) : zCt kX7_whenAllGone 5 [.ref 31] ((zs M 1 B)) (zRetE (.int (zii (sFst (fun q => decide (sAll (sRun A q) (-1) (sG A) = true)) 100 : Nat))) M 1) := by
  subst e
  have h6 := hA.1
  unfold zH at h6
  refine zMet (by decide) (Nat.le_of_ble_eq_true rfl) ?_
  show zX kX7_whenAllGone 5 0 [some (.ref 31)] [] _ _
  refine Y_aload_0 i_X7_whenAllGone_0 ?_
  refine X_getR i_X7_whenAllGone_1 f_X7_15 rfl ?_
  refine Y_aload_0 i_X7_whenAllGone_4 ?_
  refine X_getR i_X7_whenAllGone_5 f_X7_9 rfl ?_
  refine Y_callVv (k' := kX0_copyFrom) i_X7_whenAllGone_8 l_X7_18 m_X0_copyFrom (c_X0_copyFrom (i := 1) (j := 0) (by omega) (by omega) rfl) rfl rfl rfl rfl rfl ?_
  refine Y_aload_0 i_X7_whenAllGone_11 ?_
  refine X_getR i_X7_whenAllGone_12 f_X7_15 rfl ?_
  refine X_iconst i_X7_whenAllGone_15 ?_
  refine Y_callV (k' := kX0_passTillAllGoneBut) i_X7_whenAllGone_16 l_X7_56 m_X0_passTillAllGoneBut (c_X0_passTillAllGoneBut (i := 1) (by omega) hA (by omega) (zR_lit rfl)) rfl rfl rfl rfl rfl ?_
  refine X_iret i_X7_whenAllGone_19 rfl ?_
  exact zre rfl
def sDr (A : zAft) (x : Int) : Nat := sFst (fun q => decide (sRun A q 3 x = 2)) 100
set_option maxRecDepth 100000 in
theorem c_X7_whenDrinking {M : zMem} {A B : zAft} (e : M 0 = A) (hA : zOk 999 A) {x : Int} (x0 : 0 ≤ x) (x1 : x < 6) : zCt kX7_whenDrinking 4 [.ref 31, .int (zii x)] ((zs M 1 B)) (zRetE (.int (zii (s9 (sDr A x)))) M 1) := by
  subst e
  have h6 := hA.1
  unfold zH at h6
  refine zMet (by decide) (Nat.le_of_ble_eq_true rfl) ?_
  show zX kX7_whenDrinking 4 0 [some (.ref 31), some (.int (zii x)), none] [] _ _
  have loop : ∀ (n : Nat) (j : Nat), j + n = 100 → (∀ q, q < j → (fun q => decide (sRun (M 0) q 3 x = 2)) q = false) → zX kX7_whenDrinking 4 13 [some (.ref 31), some (.int (zii x)), some (.int (zii j))] [] (zs M 1 (sRun (M 0) j)) (zRetE (.int (zii (s9 (sDr (M 0) x)))) M 1) := by
    intro n
    induction n with
    | zero =>
      intro j  hg hno
      obtain rfl : j = 100 := by omega
      have e9 : sDr (M 0) x = 100 := sFst_none 100 hno
      refine Y_iload_2 i_X7_whenDrinking_13 ?_
      refine X_bipush i_X7_whenDrinking_14 (by decide +kernel) ?_
      refine X_icmp_gt i_X7_whenDrinking_16 (tgt := 47) rfl ⟨by omega, by omega⟩ ⟨by omega, by omega⟩ (fun h16 => ?_) (fun h16 => by exfalso; omega)
      refine X_bipush i_X7_whenDrinking_47 (by decide +kernel) ?_
      refine X_iret i_X7_whenDrinking_49 rfl ?_
      exact zre (by rw [e9]; rfl)
    | succ n ih =>
      intro j  hg hno
      have hO := sRun_ok hA j
      have hgg := hO.2 x (by omega) (by omega)
      unfold zG at hgg
      refine Y_iload_2 i_X7_whenDrinking_13 ?_
      refine X_bipush i_X7_whenDrinking_14 (by decide +kernel) ?_
      refine X_icmp_gt i_X7_whenDrinking_16 (tgt := 47) rfl ⟨by omega, by omega⟩ ⟨by omega, by omega⟩ (fun h16 => by exfalso; omega) (fun h16 => ?_)
      refine Y_aload_0 i_X7_whenDrinking_19 ?_
      refine X_getR i_X7_whenDrinking_20 f_X7_15 rfl ?_
      refine X_getR i_X7_whenDrinking_23 f_X7_31 rfl ?_
      refine Y_iload_1 i_X7_whenDrinking_26 ?_
      refine Y_iald i_X7_whenDrinking_27 rfl ⟨by omega, by omega⟩ rfl (zg0 _ _ _ _ _) ?_
      refine X_iconst i_X7_whenDrinking_28 ?_
      refine Y_icmp_ne i_X7_whenDrinking_29 (tgt := 34) rfl ⟨by omega, by omega⟩ ⟨by omega, by omega⟩ (fun h29 => ?_) (fun h29 => ?_)
      · refine Y_aload_0 i_X7_whenDrinking_34 ?_
        refine X_getR i_X7_whenDrinking_35 f_X7_15 rfl ?_
        refine Y_callVv (k' := kX0_passOne) i_X7_whenDrinking_38 l_X7_62 m_X0_passOne (c_X0_passOne (i := 1) (by omega) hO (by omega)) rfl rfl rfl rfl rfl ?_
        refine Y_iinc_2 i_X7_whenDrinking_41 rfl rfl ?_
        refine X_goto i_X7_whenDrinking_44 (tgt := 13) rfl ?_
        exact X_eq (ih (j + 1) (by omega) (fun q hq => by
          by_cases e : q = j
          · subst e; exact decide_eq_false h29
          · exact hno q (by omega))) (by simp) rfl rfl
      · refine Y_iload_2 i_X7_whenDrinking_32 ?_
        refine X_iret i_X7_whenDrinking_33 rfl ?_
        have e9 : sDr (M 0) x = j := sFst_eq hno (decide_eq_true h29) 100 (by omega)
        exact zre (by rw [e9]; unfold s9; rw [if_neg (by omega)])
  refine Y_aload_0 i_X7_whenDrinking_0 ?_
  refine X_getR i_X7_whenDrinking_1 f_X7_15 rfl ?_
  refine Y_aload_0 i_X7_whenDrinking_4 ?_
  refine X_getR i_X7_whenDrinking_5 f_X7_9 rfl ?_
  refine Y_callVv (k' := kX0_copyFrom) i_X7_whenDrinking_8 l_X7_18 m_X0_copyFrom (c_X0_copyFrom (i := 1) (j := 0) (by omega) (by omega) rfl) rfl rfl rfl rfl rfl ?_
  refine X_iconst i_X7_whenDrinking_11 ?_
  refine Y_istore_2 i_X7_whenDrinking_12 rfl rfl ?_
  exact loop 100 0 (by omega) (fun q h => absurd h (by omega))
def s_X7_minutesStood (A : zAft) : Nat → Int := fun j => sMany (sRun A (j + 1)) 1
set_option maxRecDepth 100000 in
theorem c_X7_minutesStood {M : zMem} {A B : zAft} (e : M 0 = A) (hA : zOk 999 A) {t : Nat} (ht : t ≤ 99) : zCt kX7_minutesStood 4 [.ref 31, .int (zii t)] ((zs M 1 B)) (zRetE (.int (zii (sSum (s_X7_minutesStood A) t))) M 1) := by
  subst e
  have h6 := hA.1
  unfold zH at h6
  refine zMet (by decide) (Nat.le_of_ble_eq_true rfl) ?_
  show zX kX7_minutesStood 4 0 [some (.ref 31), some (.int (zii t)), none, none] [] _ _
  have loop : ∀ (n : Nat) (j : Nat), j + n = t → zX kX7_minutesStood 4 15 [some (.ref 31), some (.int (zii t)), some (.int (zii (sSum (s_X7_minutesStood (M 0)) j))), some (.int (zii ((j : Int) + 1)))] [] (zs M 1 (sRun (M 0) j)) (zRetE (.int (zii (sSum (s_X7_minutesStood (M 0)) t))) M 1) := by
    intro n
    induction n with
    | zero =>
      intro j  hg 
      refine Y_iload_3 i_X7_minutesStood_15 ?_
      refine Y_iload_1 i_X7_minutesStood_16 ?_
      refine X_icmp_gt i_X7_minutesStood_17 (tgt := 44) rfl ⟨by omega, by omega⟩ ⟨by omega, by omega⟩ (fun h17 => ?_) (fun h17 => by exfalso; omega)
      refine Y_iload_2 i_X7_minutesStood_44 ?_
      refine X_iret i_X7_minutesStood_45 rfl ?_
      exact zre (by rw [show j = t by omega])
    | succ n ih =>
      intro j  hg 
      have hO := sRun_ok hA j
      have hO1 := sRun_ok hA (j + 1)
      have hcc := sRun_6 (M 0) 1 (by omega) (by omega) (j + 1)

      refine Y_iload_3 i_X7_minutesStood_15 ?_
      refine Y_iload_1 i_X7_minutesStood_16 ?_
      refine X_icmp_gt i_X7_minutesStood_17 (tgt := 44) rfl ⟨by omega, by omega⟩ ⟨by omega, by omega⟩ (fun h17 => by exfalso; omega) (fun h17 => ?_)
      refine Y_aload_0 i_X7_minutesStood_20 ?_
      refine X_getR i_X7_minutesStood_21 f_X7_15 rfl ?_
      refine Y_callVv (k' := kX0_passOne) i_X7_minutesStood_24 l_X7_62 m_X0_passOne (c_X0_passOne (i := 1) (by omega) hO (by omega)) rfl rfl rfl rfl rfl ?_
      change zX _ _ _ _ _ (zs M 1 (sRun (M 0) (j + 1))) _
      refine Y_iload_2 i_X7_minutesStood_27 ?_
      refine Y_aload_0 i_X7_minutesStood_28 ?_
      refine X_getR i_X7_minutesStood_29 f_X7_15 rfl ?_
      refine X_iconst i_X7_minutesStood_32 ?_
      refine Y_callV (k' := kX0_howMany) i_X7_minutesStood_33 l_X7_41 m_X0_howMany (c_X0_howMany (i := 1) (by omega) (zs_self _ _ _) hO1 (zR_lit rfl)) rfl rfl rfl rfl rfl ?_
      refine X_iadd i_X7_minutesStood_36 ?_
      refine Y_istore_2 i_X7_minutesStood_37 rfl rfl ?_
      refine Y_iinc_3 i_X7_minutesStood_38 rfl rfl ?_
      refine X_goto i_X7_minutesStood_41 (tgt := 15) rfl ?_
      exact X_eq (ih (j + 1) (by omega)) (by simp [sSum, s_X7_minutesStood]) rfl rfl
  refine X_iconst i_X7_minutesStood_0 ?_
  refine Y_istore_2 i_X7_minutesStood_1 rfl rfl ?_
  refine Y_aload_0 i_X7_minutesStood_2 ?_
  refine X_getR i_X7_minutesStood_3 f_X7_15 rfl ?_
  refine Y_aload_0 i_X7_minutesStood_6 ?_
  refine X_getR i_X7_minutesStood_7 f_X7_9 rfl ?_
  refine Y_callVv (k' := kX0_copyFrom) i_X7_minutesStood_10 l_X7_18 m_X0_copyFrom (c_X0_copyFrom (i := 1) (j := 0) (by omega) (by omega) rfl) rfl rfl rfl rfl rfl ?_
  refine X_iconst i_X7_minutesStood_13 ?_
  refine Y_istore_3 i_X7_minutesStood_14 rfl rfl ?_
  exact loop t 0 (by omega)
def s_X7_cupsIdle (A : zAft) : Nat → Int := fun j => sRun A (j + 1) 6 1 - sMany (sRun A (j + 1)) 2
set_option maxRecDepth 100000 in
theorem c_X7_cupsIdle {M : zMem} {A B : zAft} (e : M 0 = A) (hA : zOk 999 A) {t : Nat} (ht : t ≤ 99) : zCt kX7_cupsIdle 4 [.ref 31, .int (zii t)] ((zs M 1 B)) (zRetE (.int (zii (sSum (s_X7_cupsIdle A) t))) M 1) := by
  subst e
  have h6 := hA.1
  unfold zH at h6
  refine zMet (by decide) (Nat.le_of_ble_eq_true rfl) ?_
  show zX kX7_cupsIdle 4 0 [some (.ref 31), some (.int (zii t)), none, none] [] _ _
  have loop : ∀ (n : Nat) (j : Nat), j + n = t → zX kX7_cupsIdle 4 15 [some (.ref 31), some (.int (zii t)), some (.int (zii (sSum (s_X7_cupsIdle (M 0)) j))), some (.int (zii ((j : Int) + 1)))] [] (zs M 1 (sRun (M 0) j)) (zRetE (.int (zii (sSum (s_X7_cupsIdle (M 0)) t))) M 1) := by
    intro n
    induction n with
    | zero =>
      intro j  hg 
      refine Y_iload_3 i_X7_cupsIdle_15 ?_
      refine Y_iload_1 i_X7_cupsIdle_16 ?_
      refine X_icmp_gt i_X7_cupsIdle_17 (tgt := 52) rfl ⟨by omega, by omega⟩ ⟨by omega, by omega⟩ (fun h17 => ?_) (fun h17 => by exfalso; omega)
      refine Y_iload_2 i_X7_cupsIdle_52 ?_
      refine X_iret i_X7_cupsIdle_53 rfl ?_
      exact zre (by rw [show j = t by omega])
    | succ n ih =>
      intro j  hg 
      have hO := sRun_ok hA j
      have hO1 := sRun_ok hA (j + 1)
      have hcc := sRun_6 (M 0) 1 (by omega) (by omega) (j + 1)

      refine Y_iload_3 i_X7_cupsIdle_15 ?_
      refine Y_iload_1 i_X7_cupsIdle_16 ?_
      refine X_icmp_gt i_X7_cupsIdle_17 (tgt := 52) rfl ⟨by omega, by omega⟩ ⟨by omega, by omega⟩ (fun h17 => by exfalso; omega) (fun h17 => ?_)
      refine Y_aload_0 i_X7_cupsIdle_20 ?_
      refine X_getR i_X7_cupsIdle_21 f_X7_15 rfl ?_
      refine Y_callVv (k' := kX0_passOne) i_X7_cupsIdle_24 l_X7_62 m_X0_passOne (c_X0_passOne (i := 1) (by omega) hO (by omega)) rfl rfl rfl rfl rfl ?_
      change zX _ _ _ _ _ (zs M 1 (sRun (M 0) (j + 1))) _
      refine Y_iload_2 i_X7_cupsIdle_27 ?_
      refine Y_aload_0 i_X7_cupsIdle_28 ?_
      refine X_getR i_X7_cupsIdle_29 f_X7_15 rfl ?_
      refine Y_getI i_X7_cupsIdle_32 f_X7_78 rfl (zg0 _ _ _ _ _) ?_
      refine Y_aload_0 i_X7_cupsIdle_35 ?_
      refine X_getR i_X7_cupsIdle_36 f_X7_15 rfl ?_
      refine X_iconst i_X7_cupsIdle_39 ?_
      refine Y_callV (k' := kX0_howMany) i_X7_cupsIdle_40 l_X7_41 m_X0_howMany (c_X0_howMany (i := 1) (by omega) (zs_self _ _ _) hO1 (zR_lit rfl)) rfl rfl rfl rfl rfl ?_
      refine X_isub i_X7_cupsIdle_43 ?_
      refine X_iadd i_X7_cupsIdle_44 ?_
      refine Y_istore_2 i_X7_cupsIdle_45 rfl rfl ?_
      refine Y_iinc_3 i_X7_cupsIdle_46 rfl rfl ?_
      refine X_goto i_X7_cupsIdle_49 (tgt := 15) rfl ?_
      exact X_eq (ih (j + 1) (by omega)) (by simp [sSum, s_X7_cupsIdle]) rfl rfl
  refine X_iconst i_X7_cupsIdle_0 ?_
  refine Y_istore_2 i_X7_cupsIdle_1 rfl rfl ?_
  refine Y_aload_0 i_X7_cupsIdle_2 ?_
  refine X_getR i_X7_cupsIdle_3 f_X7_15 rfl ?_
  refine Y_aload_0 i_X7_cupsIdle_6 ?_
  refine X_getR i_X7_cupsIdle_7 f_X7_9 rfl ?_
  refine Y_callVv (k' := kX0_copyFrom) i_X7_cupsIdle_10 l_X7_18 m_X0_copyFrom (c_X0_copyFrom (i := 1) (j := 0) (by omega) (by omega) rfl) rfl rfl rfl rfl rfl ?_
  refine X_iconst i_X7_cupsIdle_13 ?_
  refine Y_istore_3 i_X7_cupsIdle_14 rfl rfl ?_
  exact loop t 0 (by omega)
def s_X7_minutesStoodBy (A : zAft) (x : Int) : Nat → Int := fun j => if sRun A (j + 1) 3 x = 1 then 1 else 0
set_option maxRecDepth 100000 in
theorem c_X7_minutesStoodBy {M : zMem} {A B : zAft} (e : M 0 = A) (hA : zOk 999 A) {t : Nat} (ht : t ≤ 99) {x : Int} (x0 : 0 ≤ x) (x1 : x < 6) : zCt kX7_minutesStoodBy 4 [.ref 31, .int (zii x), .int (zii t)] ((zs M 1 B)) (zRetE (.int (zii (sSum (s_X7_minutesStoodBy A x) t))) M 1) := by
  subst e
  have h6 := hA.1
  unfold zH at h6
  refine zMet (by decide) (Nat.le_of_ble_eq_true rfl) ?_
  show zX kX7_minutesStoodBy 4 0 [some (.ref 31), some (.int (zii x)), some (.int (zii t)), none, none] [] _ _
  have loop : ∀ (n : Nat) (j : Nat), j + n = t → zX kX7_minutesStoodBy 4 16 [some (.ref 31), some (.int (zii x)), some (.int (zii t)), some (.int (zii (sSum (s_X7_minutesStoodBy (M 0) x) j))), some (.int (zii ((j : Int) + 1)))] [] (zs M 1 (sRun (M 0) j)) (zRetE (.int (zii (sSum (s_X7_minutesStoodBy (M 0) x) t))) M 1) := by
    intro n
    induction n with
    | zero =>
      intro j  hg 
      refine Y_iload_4 i_X7_minutesStoodBy_16 ?_
      refine Y_iload_2 i_X7_minutesStoodBy_18 ?_
      refine X_icmp_gt i_X7_minutesStoodBy_19 (tgt := 51) rfl ⟨by omega, by omega⟩ ⟨by omega, by omega⟩ (fun h19 => ?_) (fun h19 => by exfalso; omega)
      refine Y_iload_3 i_X7_minutesStoodBy_51 ?_
      refine X_iret i_X7_minutesStoodBy_52 rfl ?_
      exact zre (by rw [show j = t by omega])
    | succ n ih =>
      intro j  hg 
      have hO := sRun_ok hA j
      have hO1 := sRun_ok hA (j + 1)
      have hcc := sRun_6 (M 0) 1 (by omega) (by omega) (j + 1)
      have hgg := hO1.2 x (by omega) (by omega)
      unfold zG at hgg
      refine Y_iload_4 i_X7_minutesStoodBy_16 ?_
      refine Y_iload_2 i_X7_minutesStoodBy_18 ?_
      refine X_icmp_gt i_X7_minutesStoodBy_19 (tgt := 51) rfl ⟨by omega, by omega⟩ ⟨by omega, by omega⟩ (fun h19 => by exfalso; omega) (fun h19 => ?_)
      refine Y_aload_0 i_X7_minutesStoodBy_22 ?_
      refine X_getR i_X7_minutesStoodBy_23 f_X7_15 rfl ?_
      refine Y_callVv (k' := kX0_passOne) i_X7_minutesStoodBy_26 l_X7_62 m_X0_passOne (c_X0_passOne (i := 1) (by omega) hO (by omega)) rfl rfl rfl rfl rfl ?_
      change zX _ _ _ _ _ (zs M 1 (sRun (M 0) (j + 1))) _
      refine Y_aload_0 i_X7_minutesStoodBy_29 ?_
      refine X_getR i_X7_minutesStoodBy_30 f_X7_15 rfl ?_
      refine X_getR i_X7_minutesStoodBy_33 f_X7_31 rfl ?_
      refine Y_iload_1 i_X7_minutesStoodBy_36 ?_
      refine Y_iald i_X7_minutesStoodBy_37 rfl ⟨by omega, by omega⟩ rfl (zg0 _ _ _ _ _) ?_
      refine X_iconst i_X7_minutesStoodBy_38 ?_
      refine Y_icmp_ne i_X7_minutesStoodBy_39 (tgt := 45) rfl ⟨by omega, by omega⟩ ⟨by omega, by omega⟩ (fun h39 => ?_) (fun h39 => ?_)
      · refine Y_iinc_4 i_X7_minutesStoodBy_45 rfl rfl ?_
        refine X_goto i_X7_minutesStoodBy_48 (tgt := 16) rfl ?_
        exact X_eq (ih (j + 1) (by omega)) (by simp [sSum, s_X7_minutesStoodBy, h39]) rfl rfl
      · refine Y_iinc_3 i_X7_minutesStoodBy_42 rfl rfl ?_
        refine Y_iinc_4 i_X7_minutesStoodBy_45 rfl rfl ?_
        refine X_goto i_X7_minutesStoodBy_48 (tgt := 16) rfl ?_
        exact X_eq (ih (j + 1) (by omega)) (by simp [sSum, s_X7_minutesStoodBy, h39]) rfl rfl
  refine X_iconst i_X7_minutesStoodBy_0 ?_
  refine Y_istore_3 i_X7_minutesStoodBy_1 rfl rfl ?_
  refine Y_aload_0 i_X7_minutesStoodBy_2 ?_
  refine X_getR i_X7_minutesStoodBy_3 f_X7_15 rfl ?_
  refine Y_aload_0 i_X7_minutesStoodBy_6 ?_
  refine X_getR i_X7_minutesStoodBy_7 f_X7_9 rfl ?_
  refine Y_callVv (k' := kX0_copyFrom) i_X7_minutesStoodBy_10 l_X7_18 m_X0_copyFrom (c_X0_copyFrom (i := 1) (j := 0) (by omega) (by omega) rfl) rfl rfl rfl rfl rfl ?_
  refine X_iconst i_X7_minutesStoodBy_13 ?_
  refine Y_istore_4 i_X7_minutesStoodBy_14 rfl rfl ?_
  exact loop t 0 (by omega)
def s_X7_bothDrinking (A : zAft) (x y : Int) : Nat → Int := fun j => if sRun A (j + 1) 3 x = 2 ∧ sRun A (j + 1) 3 y = 2 then 1 else 0
set_option maxRecDepth 100000 in
theorem c_X7_bothDrinking {M : zMem} {A B : zAft} (e : M 0 = A) (hA : zOk 999 A) {t : Nat} (ht : t ≤ 99) {x y : Int} (x0 : 0 ≤ x) (x1 : x < 6) (y0 : 0 ≤ y) (y1 : y < 6) : zCt kX7_bothDrinking 4 [.ref 31, .int (zii x), .int (zii y), .int (zii t)] ((zs M 1 B)) (zRetE (.int (zii (sSum (s_X7_bothDrinking A x y) t))) M 1) := by
  subst e
  have h6 := hA.1
  unfold zH at h6
  refine zMet (by decide) (Nat.le_of_ble_eq_true rfl) ?_
  show zX kX7_bothDrinking 4 0 [some (.ref 31), some (.int (zii x)), some (.int (zii y)), some (.int (zii t)), none, none] [] _ _
  have loop : ∀ (n : Nat) (j : Nat), j + n = t → zX kX7_bothDrinking 4 17 [some (.ref 31), some (.int (zii x)), some (.int (zii y)), some (.int (zii t)), some (.int (zii (sSum (s_X7_bothDrinking (M 0) x y) j))), some (.int (zii ((j : Int) + 1)))] [] (zs M 1 (sRun (M 0) j)) (zRetE (.int (zii (sSum (s_X7_bothDrinking (M 0) x y) t))) M 1) := by
    intro n
    induction n with
    | zero =>
      intro j  hg 
      refine Y_iload_5 i_X7_bothDrinking_17 ?_
      refine Y_iload_3 i_X7_bothDrinking_19 ?_
      refine X_icmp_gt i_X7_bothDrinking_20 (tgt := 65) rfl ⟨by omega, by omega⟩ ⟨by omega, by omega⟩ (fun h20 => ?_) (fun h20 => by exfalso; omega)
      refine Y_iload_4 i_X7_bothDrinking_65 ?_
      refine X_iret i_X7_bothDrinking_67 rfl ?_
      exact zre (by rw [show j = t by omega])
    | succ n ih =>
      intro j  hg 
      have hO := sRun_ok hA j
      have hO1 := sRun_ok hA (j + 1)
      have hcc := sRun_6 (M 0) 1 (by omega) (by omega) (j + 1)
      have hgg := hO1.2 x (by omega) (by omega)
      have hgy := hO1.2 y (by omega) (by omega)
      unfold zG at hgg hgy
      refine Y_iload_5 i_X7_bothDrinking_17 ?_
      refine Y_iload_3 i_X7_bothDrinking_19 ?_
      refine X_icmp_gt i_X7_bothDrinking_20 (tgt := 65) rfl ⟨by omega, by omega⟩ ⟨by omega, by omega⟩ (fun h20 => by exfalso; omega) (fun h20 => ?_)
      refine Y_aload_0 i_X7_bothDrinking_23 ?_
      refine X_getR i_X7_bothDrinking_24 f_X7_15 rfl ?_
      refine Y_callVv (k' := kX0_passOne) i_X7_bothDrinking_27 l_X7_62 m_X0_passOne (c_X0_passOne (i := 1) (by omega) hO (by omega)) rfl rfl rfl rfl rfl ?_
      change zX _ _ _ _ _ (zs M 1 (sRun (M 0) (j + 1))) _
      refine Y_aload_0 i_X7_bothDrinking_30 ?_
      refine X_getR i_X7_bothDrinking_31 f_X7_15 rfl ?_
      refine X_getR i_X7_bothDrinking_34 f_X7_31 rfl ?_
      refine Y_iload_1 i_X7_bothDrinking_37 ?_
      refine Y_iald i_X7_bothDrinking_38 rfl ⟨by omega, by omega⟩ rfl (zg0 _ _ _ _ _) ?_
      refine X_iconst i_X7_bothDrinking_39 ?_
      refine Y_icmp_ne i_X7_bothDrinking_40 (tgt := 59) rfl ⟨by omega, by omega⟩ ⟨by omega, by omega⟩ (fun h40 => ?_) (fun h40 => ?_)
      · refine Y_iinc_5 i_X7_bothDrinking_59 rfl rfl ?_
        refine X_goto i_X7_bothDrinking_62 (tgt := 17) rfl ?_
        exact X_eq (ih (j + 1) (by omega)) (by simp [sSum, s_X7_bothDrinking, h40]) rfl rfl
      · refine Y_aload_0 i_X7_bothDrinking_43 ?_
        refine X_getR i_X7_bothDrinking_44 f_X7_15 rfl ?_
        refine X_getR i_X7_bothDrinking_47 f_X7_31 rfl ?_
        refine Y_iload_2 i_X7_bothDrinking_50 ?_
        refine Y_iald i_X7_bothDrinking_51 rfl ⟨by omega, by omega⟩ rfl (zg0 _ _ _ _ _) ?_
        refine X_iconst i_X7_bothDrinking_52 ?_
        refine Y_icmp_ne i_X7_bothDrinking_53 (tgt := 59) rfl ⟨by omega, by omega⟩ ⟨by omega, by omega⟩ (fun h53 => ?_) (fun h53 => ?_)
        · refine Y_iinc_5 i_X7_bothDrinking_59 rfl rfl ?_
          refine X_goto i_X7_bothDrinking_62 (tgt := 17) rfl ?_
          exact X_eq (ih (j + 1) (by omega)) (by simp [sSum, s_X7_bothDrinking, h40, h53]) rfl rfl
        · refine Y_iinc_4 i_X7_bothDrinking_56 rfl rfl ?_
          refine Y_iinc_5 i_X7_bothDrinking_59 rfl rfl ?_
          refine X_goto i_X7_bothDrinking_62 (tgt := 17) rfl ?_
          exact X_eq (ih (j + 1) (by omega)) (by simp [sSum, s_X7_bothDrinking, h40, h53]) rfl rfl
  refine X_iconst i_X7_bothDrinking_0 ?_
  refine Y_istore_4 i_X7_bothDrinking_1 rfl rfl ?_
  refine Y_aload_0 i_X7_bothDrinking_3 ?_
  refine X_getR i_X7_bothDrinking_4 f_X7_15 rfl ?_
  refine Y_aload_0 i_X7_bothDrinking_7 ?_
  refine X_getR i_X7_bothDrinking_8 f_X7_9 rfl ?_
  refine Y_callVv (k' := kX0_copyFrom) i_X7_bothDrinking_11 l_X7_18 m_X0_copyFrom (c_X0_copyFrom (i := 1) (j := 0) (by omega) (by omega) rfl) rfl rfl rfl rfl rfl ?_
  refine X_iconst i_X7_bothDrinking_14 ?_
  refine Y_istore_5 i_X7_bothDrinking_15 rfl rfl ?_
  exact loop t 0 (by omega)
set_option maxRecDepth 100000 in
theorem c_X7_staying {M : zMem} {A B : zAft} (e : M 0 = A) (hA : zOk 999 A) : zCt kX7_staying 6 [.ref 31] ((zs M 1 B)) (zRetE (.int (zii (zor (zor (sSet (sRun A 99) 0 (sG A)) (sSet (sRun A 99) 1 (sG A))) (sSet (sRun A 99) 2 (sG A))))) M 1) := by
  subst e
  have h6 := hA.1
  unfold zH at h6
  have hO := sRun_ok hA 99
  refine zMet (by decide) (Nat.le_of_ble_eq_true rfl) ?_
  show zX kX7_staying 6 0 [some (.ref 31)] [] _ _
  refine Y_aload_0 i_X7_staying_0 ?_
  refine X_bipush i_X7_staying_1 (by decide +kernel) ?_
  refine Y_callVv (k' := kX7_lookOn) i_X7_staying_3 l_X7_28 m_X7_lookOn (c_X7_lookOn (t := 99) rfl hA (by omega)) rfl rfl rfl rfl rfl ?_
  refine Y_aload_0 i_X7_staying_6 ?_
  refine X_getR i_X7_staying_7 f_X7_15 rfl ?_
  refine X_iconst i_X7_staying_10 ?_
  refine Y_callV (k' := kX0_setOf) i_X7_staying_11 l_X7_65 m_X0_setOf (c_X0_setOf (i := 1) (by omega) (zs_self _ _ _) hO (zR_lit rfl)) rfl rfl rfl rfl rfl ?_
  refine Y_aload_0 i_X7_staying_14 ?_
  refine X_getR i_X7_staying_15 f_X7_15 rfl ?_
  refine X_iconst i_X7_staying_18 ?_
  refine Y_callV (k' := kX0_setOf) i_X7_staying_19 l_X7_65 m_X0_setOf (c_X0_setOf (i := 1) (by omega) (zs_self _ _ _) hO (zR_lit rfl)) rfl rfl rfl rfl rfl ?_
  refine X_ior i_X7_staying_22 ?_
  refine Y_aload_0 i_X7_staying_23 ?_
  refine X_getR i_X7_staying_24 f_X7_15 rfl ?_
  refine X_iconst i_X7_staying_27 ?_
  refine Y_callV (k' := kX0_setOf) i_X7_staying_28 l_X7_65 m_X0_setOf (c_X0_setOf (i := 1) (by omega) (zs_self _ _ _) hO (zR_lit rfl)) rfl rfl rfl rfl rfl ?_
  refine X_ior i_X7_staying_31 ?_
  refine X_iret i_X7_staying_32 rfl ?_
  exact zre (by rw [sRun_G])
set_option maxRecDepth 100000 in
theorem c_X7_isStuck {M : zMem} {A B : zAft} (e : M 0 = A) (hA : zOk 999 A) : zCt kX7_isStuck 6 [.ref 31] ((zs M 1 B)) (zRetE (.int (zii (if sMany (sRun A 99) 1 = 0 ∧ sMany (sRun A 99) 2 = 0 ∧ 0 < sMany (sRun A 99) 0 then 1 else 0))) M 1) := by
  subst e
  have h6 := hA.1
  unfold zH at h6
  have hO := sRun_ok hA 99
  have hc0 := sCnt_in (sRun (M 0) 99) 0 (sG (sRun (M 0) 99))
  have hm0 : sMany (sRun (M 0) 99) 0 = sCnt (sRun (M 0) 99) 0 (sG (sRun (M 0) 99)) := rfl
  have hc1 := sCnt_in (sRun (M 0) 99) 1 (sG (sRun (M 0) 99))
  have hm1 : sMany (sRun (M 0) 99) 1 = sCnt (sRun (M 0) 99) 1 (sG (sRun (M 0) 99)) := rfl
  have hc2 := sCnt_in (sRun (M 0) 99) 2 (sG (sRun (M 0) 99))
  have hm2 : sMany (sRun (M 0) 99) 2 = sCnt (sRun (M 0) 99) 2 (sG (sRun (M 0) 99)) := rfl
  have hG9 := sG_le (sRun_ok hA 99).1
  refine zMet (by decide) (Nat.le_of_ble_eq_true rfl) ?_
  show zX kX7_isStuck 6 0 [some (.ref 31)] [] _ _
  refine Y_aload_0 i_X7_isStuck_0 ?_
  refine X_bipush i_X7_isStuck_1 (by decide +kernel) ?_
  refine Y_callVv (k' := kX7_lookOn) i_X7_isStuck_3 l_X7_28 m_X7_lookOn (c_X7_lookOn (t := 99) rfl hA (by omega)) rfl rfl rfl rfl rfl ?_
  refine Y_aload_0 i_X7_isStuck_6 ?_
  refine X_getR i_X7_isStuck_7 f_X7_15 rfl ?_
  refine X_iconst i_X7_isStuck_10 ?_
  refine Y_callV (k' := kX0_howMany) i_X7_isStuck_11 l_X7_41 m_X0_howMany (c_X0_howMany (i := 1) (by omega) (zs_self _ _ _) hO (zR_lit rfl)) rfl rfl rfl rfl rfl ?_
  refine Y_if_ne i_X7_isStuck_14 (tgt := 43) rfl ⟨by omega, by omega⟩ (fun h14 => ?_) (fun h14 => ?_)
  · refine X_iconst i_X7_isStuck_43 ?_
    refine X_zret i_X7_isStuck_44 rfl (by omega) ?_
    exact zre (by split <;> omega)
  · refine Y_aload_0 i_X7_isStuck_17 ?_
    refine X_getR i_X7_isStuck_18 f_X7_15 rfl ?_
    refine X_iconst i_X7_isStuck_21 ?_
    refine Y_callV (k' := kX0_howMany) i_X7_isStuck_22 l_X7_41 m_X0_howMany (c_X0_howMany (i := 1) (by omega) (zs_self _ _ _) hO (zR_lit rfl)) rfl rfl rfl rfl rfl ?_
    refine Y_if_ne i_X7_isStuck_25 (tgt := 43) rfl ⟨by omega, by omega⟩ (fun h25 => ?_) (fun h25 => ?_)
    · refine X_iconst i_X7_isStuck_43 ?_
      refine X_zret i_X7_isStuck_44 rfl (by omega) ?_
      exact zre (by split <;> omega)
    · refine Y_aload_0 i_X7_isStuck_28 ?_
      refine X_getR i_X7_isStuck_29 f_X7_15 rfl ?_
      refine X_iconst i_X7_isStuck_32 ?_
      refine Y_callV (k' := kX0_howMany) i_X7_isStuck_33 l_X7_41 m_X0_howMany (c_X0_howMany (i := 1) (by omega) (zs_self _ _ _) hO (zR_lit rfl)) rfl rfl rfl rfl rfl ?_
      refine X_if_le i_X7_isStuck_36 (tgt := 43) rfl ⟨by omega, by omega⟩ (fun h36 => ?_) (fun h36 => ?_)
      · refine X_iconst i_X7_isStuck_43 ?_
        refine X_zret i_X7_isStuck_44 rfl (by omega) ?_
        exact zre (by split <;> omega)
      · refine X_iconst i_X7_isStuck_39 ?_
        refine X_goto i_X7_isStuck_40 (tgt := 44) rfl ?_
        refine X_zret i_X7_isStuck_44 rfl (by omega) ?_
        exact zre (by split <;> omega)
def sDry (R : zAft) : Nat → Int
  | 0 => 0
  | n + 1 => if R 3 n = 3 ∧ R 5 n = 0 then sDry R n + 1 else sDry R n
set_option maxRecDepth 100000 in
theorem c_X7_goneWithoutTea {M : zMem} {A B : zAft} (e : M 0 = A) (hA : zOk 999 A) {t : Nat} (ht : t ≤ 99) : zCt kX7_goneWithoutTea 6 [.ref 31, .int (zii t)] ((zs M 1 B)) (zRetE (.int (zii (sDry (sRun A t) (sG A)))) M 1) := by
  subst e
  have h6 := hA.1
  unfold zH at h6
  have hO := sRun_ok hA t
  have hG := sG_le hA.1
  have hg0 := sRun_6 (M 0) 0 (by omega) (by omega) t
  refine zMet (by decide) (Nat.le_of_ble_eq_true rfl) ?_
  show zX kX7_goneWithoutTea 6 0 [some (.ref 31), some (.int (zii t)), none, none] [] _ _
  have loop : ∀ (n : Nat) (g : Nat), g + n = sG (M 0) → zX kX7_goneWithoutTea 6 9 [some (.ref 31), some (.int (zii t)), some (.int (zii (sDry (sRun (M 0) t) g))), some (.int (zii g))] [] (zs M 1 (sRun (M 0) t)) (zRetE (.int (zii (sDry (sRun (M 0) t) (sG (M 0))))) M 1) := by
    intro n
    induction n with
    | zero =>
      intro g  hg 
      refine Y_iload_3 i_X7_goneWithoutTea_9 ?_
      refine Y_aload_0 i_X7_goneWithoutTea_10 ?_
      refine X_getR i_X7_goneWithoutTea_11 f_X7_15 rfl ?_
      refine Y_getI i_X7_goneWithoutTea_14 f_X7_59 rfl (zg0 _ _ _ _ _) ?_
      refine X_icmp_ge i_X7_goneWithoutTea_17 (tgt := 54) rfl ⟨by omega, by omega⟩ ⟨by omega, by omega⟩ (fun h17 => ?_) (fun h17 => by exfalso; omega)
      refine Y_iload_2 i_X7_goneWithoutTea_54 ?_
      refine X_iret i_X7_goneWithoutTea_55 rfl ?_
      exact zre (by rw [show g = sG (M 0) by omega])
    | succ n ih =>
      intro g  hg 
      have hgg := hO.2 g (by omega) (by omega)
      unfold zG at hgg
      refine Y_iload_3 i_X7_goneWithoutTea_9 ?_
      refine Y_aload_0 i_X7_goneWithoutTea_10 ?_
      refine X_getR i_X7_goneWithoutTea_11 f_X7_15 rfl ?_
      refine Y_getI i_X7_goneWithoutTea_14 f_X7_59 rfl (zg0 _ _ _ _ _) ?_
      refine X_icmp_ge i_X7_goneWithoutTea_17 (tgt := 54) rfl ⟨by omega, by omega⟩ ⟨by omega, by omega⟩ (fun h17 => by exfalso; omega) (fun h17 => ?_)
      refine Y_aload_0 i_X7_goneWithoutTea_20 ?_
      refine X_getR i_X7_goneWithoutTea_21 f_X7_15 rfl ?_
      refine X_getR i_X7_goneWithoutTea_24 f_X7_31 rfl ?_
      refine Y_iload_3 i_X7_goneWithoutTea_27 ?_
      refine Y_iald i_X7_goneWithoutTea_28 rfl ⟨by omega, by omega⟩ rfl (zg0 _ _ _ _ _) ?_
      refine X_iconst i_X7_goneWithoutTea_29 ?_
      refine Y_icmp_ne i_X7_goneWithoutTea_30 (tgt := 48) rfl ⟨by omega, by omega⟩ ⟨by omega, by omega⟩ (fun h30 => ?_) (fun h30 => ?_)
      · refine Y_iinc_3 i_X7_goneWithoutTea_48 rfl rfl ?_
        refine X_goto i_X7_goneWithoutTea_51 (tgt := 9) rfl ?_
        exact X_eq (ih (g + 1) (by omega)) (by simp [sDry, h30]) rfl rfl
      · refine Y_aload_0 i_X7_goneWithoutTea_33 ?_
        refine X_getR i_X7_goneWithoutTea_34 f_X7_15 rfl ?_
        refine X_getR i_X7_goneWithoutTea_37 f_X7_38 rfl ?_
        refine Y_iload_3 i_X7_goneWithoutTea_40 ?_
        refine Y_iald i_X7_goneWithoutTea_41 rfl ⟨by omega, by omega⟩ rfl (zg0 _ _ _ _ _) ?_
        refine Y_if_ne i_X7_goneWithoutTea_42 (tgt := 48) rfl ⟨by omega, by omega⟩ (fun h42 => ?_) (fun h42 => ?_)
        · refine Y_iinc_3 i_X7_goneWithoutTea_48 rfl rfl ?_
          refine X_goto i_X7_goneWithoutTea_51 (tgt := 9) rfl ?_
          exact X_eq (ih (g + 1) (by omega)) (by simp [sDry, h30, h42]) rfl rfl
        · refine Y_iinc_2 i_X7_goneWithoutTea_45 rfl rfl ?_
          refine Y_iinc_3 i_X7_goneWithoutTea_48 rfl rfl ?_
          refine X_goto i_X7_goneWithoutTea_51 (tgt := 9) rfl ?_
          exact X_eq (ih (g + 1) (by omega)) (by simp [sDry, h30, h42]) rfl rfl
  refine X_iconst i_X7_goneWithoutTea_0 ?_
  refine Y_istore_2 i_X7_goneWithoutTea_1 rfl rfl ?_
  refine Y_aload_0 i_X7_goneWithoutTea_2 ?_
  refine Y_iload_1 i_X7_goneWithoutTea_3 ?_
  refine Y_callVv (k' := kX7_lookOn) i_X7_goneWithoutTea_4 l_X7_28 m_X7_lookOn (c_X7_lookOn rfl hA ht) rfl rfl rfl rfl rfl ?_
  refine X_iconst i_X7_goneWithoutTea_7 ?_
  refine Y_istore_3 i_X7_goneWithoutTea_8 rfl rfl ?_
  exact loop (sG (M 0)) 0 (by omega)
def sCm (A : zAft) : Nat → Int
  | 0 => 0
  | n + 1 => if sCm A n < sMany (sRun A n) 1 then sMany (sRun A n) 1 else sCm A n
def sCw (A : zAft) : Nat → Int
  | 0 => 0
  | n + 1 => if sCm A n < sMany (sRun A n) 1 then n else sCw A n
theorem sMany_in {b : Int} {A : zAft} (h : zH b A) (s : Int) : 0 ≤ sMany A s ∧ sMany A s ≤ 6 := by
  have h1 := sCnt_in A s (sG A)
  have h2 := sG_le h
  unfold sMany; omega
theorem sCm_in {A : zAft} {b : Int} (h : zOk b A) : ∀ n, 0 ≤ sCm A n ∧ sCm A n ≤ 6 := by
  intro n
  induction n with
  | zero => simp [sCm]
  | succ n ih =>
    have := sMany_in (sRun_ok h n).1 1
    simp only [sCm]; split <;> omega
set_option maxRecDepth 100000 in
theorem c_X7_mostStanding {M : zMem} {A B : zAft} (e : M 0 = A) (hA : zOk 999 A) {t : Nat} (ht : t ≤ 99) {w : Int} (hw : zR w) : zCt kX7_mostStanding 4 [.ref 31, .int (zii t), .int (zii w)] ((zs M 1 B)) (zRetE (.int (zii (if w = 0 then sCm A (t + 1) else sCw A (t + 1)))) M 1) := by
  subst e
  have h6 := hA.1
  unfold zH at h6
  have hw1 := hw.1
  have hw2 := hw.2
  refine zMet (by decide) (Nat.le_of_ble_eq_true rfl) ?_
  show zX kX7_mostStanding 4 0 [some (.ref 31), some (.int (zii t)), some (.int (zii w)), none, none, none, none] [] _ _
  have loop : ∀ (n : Nat) (j : Nat) (lx : Option Value), j + n = t + 1 → zX kX7_mostStanding 4 19 [some (.ref 31), some (.int (zii t)), some (.int (zii w)), some (.int (zii (sCm (M 0) j))), some (.int (zii (sCw (M 0) j))), some (.int (zii j)), lx] [] (zs M 1 (sRun (M 0) j)) (zRetE (.int (zii (if w = 0 then sCm (M 0) (t + 1) else sCw (M 0) (t + 1)))) M 1) := by
    intro n
    induction n with
    | zero =>
      intro j lx hg 
      obtain rfl : j = t + 1 := by omega
      refine Y_iload_5 i_X7_mostStanding_19 ?_
      refine Y_iload_1 i_X7_mostStanding_21 ?_
      refine X_icmp_gt i_X7_mostStanding_22 (tgt := 61) rfl ⟨by omega, by omega⟩ ⟨by omega, by omega⟩ (fun h22 => ?_) (fun h22 => by exfalso; omega)
      refine Y_iload_2 i_X7_mostStanding_61 ?_
      refine Y_if_ne i_X7_mostStanding_62 (tgt := 69) rfl ⟨by omega, by omega⟩ (fun h62 => ?_) (fun h62 => ?_)
      · refine Y_iload_4 i_X7_mostStanding_69 ?_
        refine X_iret i_X7_mostStanding_71 rfl ?_
        exact zre (by rw [if_neg h62])
      · refine Y_iload_3 i_X7_mostStanding_65 ?_
        refine X_goto i_X7_mostStanding_66 (tgt := 71) rfl ?_
        refine X_iret i_X7_mostStanding_71 rfl ?_
        exact zre (by rw [if_pos h62])
    | succ n ih =>
      intro j lx hg 
      have hO := sRun_ok hA j
      have hmi := sMany_in hO.1 1
      have hci := sCm_in hA j
      refine Y_iload_5 i_X7_mostStanding_19 ?_
      refine Y_iload_1 i_X7_mostStanding_21 ?_
      refine X_icmp_gt i_X7_mostStanding_22 (tgt := 61) rfl ⟨by omega, by omega⟩ ⟨by omega, by omega⟩ (fun h22 => by exfalso; omega) (fun h22 => ?_)
      refine Y_aload_0 i_X7_mostStanding_25 ?_
      refine X_getR i_X7_mostStanding_26 f_X7_15 rfl ?_
      refine X_iconst i_X7_mostStanding_29 ?_
      refine Y_callV (k' := kX0_howMany) i_X7_mostStanding_30 l_X7_41 m_X0_howMany (c_X0_howMany (i := 1) (by omega) (zs_self _ _ _) hO (zR_lit rfl)) rfl rfl rfl rfl rfl ?_
      refine Y_istore_6 i_X7_mostStanding_33 rfl rfl ?_
      refine Y_iload_6 i_X7_mostStanding_35 ?_
      refine Y_iload_3 i_X7_mostStanding_37 ?_
      refine X_icmp_le i_X7_mostStanding_38 (tgt := 48) rfl ⟨by omega, by omega⟩ ⟨by omega, by omega⟩ (fun h38 => ?_) (fun h38 => ?_)
      · refine Y_aload_0 i_X7_mostStanding_48 ?_
        refine X_getR i_X7_mostStanding_49 f_X7_15 rfl ?_
        refine Y_callVv (k' := kX0_passOne) i_X7_mostStanding_52 l_X7_62 m_X0_passOne (c_X0_passOne (i := 1) (by omega) hO (by omega)) rfl rfl rfl rfl rfl ?_
        refine Y_iinc_5 i_X7_mostStanding_55 rfl rfl ?_
        refine X_goto i_X7_mostStanding_58 (tgt := 19) rfl ?_
        exact X_eq (ih (j + 1) _ (by omega)) (by simp [sCm, sCw, Int.not_lt.mpr h38]; rfl) rfl rfl
      · refine Y_iload_6 i_X7_mostStanding_41 ?_
        refine Y_istore_3 i_X7_mostStanding_43 rfl rfl ?_
        refine Y_iload_5 i_X7_mostStanding_44 ?_
        refine Y_istore_4 i_X7_mostStanding_46 rfl rfl ?_
        refine Y_aload_0 i_X7_mostStanding_48 ?_
        refine X_getR i_X7_mostStanding_49 f_X7_15 rfl ?_
        refine Y_callVv (k' := kX0_passOne) i_X7_mostStanding_52 l_X7_62 m_X0_passOne (c_X0_passOne (i := 1) (by omega) hO (by omega)) rfl rfl rfl rfl rfl ?_
        refine Y_iinc_5 i_X7_mostStanding_55 rfl rfl ?_
        refine X_goto i_X7_mostStanding_58 (tgt := 19) rfl ?_
        exact X_eq (ih (j + 1) _ (by omega)) (by simp [sCm, sCw, Int.not_le.mp h38]; rfl) rfl rfl
  refine X_iconst i_X7_mostStanding_0 ?_
  refine Y_istore_3 i_X7_mostStanding_1 rfl rfl ?_
  refine X_iconst i_X7_mostStanding_2 ?_
  refine Y_istore_4 i_X7_mostStanding_3 rfl rfl ?_
  refine Y_aload_0 i_X7_mostStanding_5 ?_
  refine X_getR i_X7_mostStanding_6 f_X7_15 rfl ?_
  refine Y_aload_0 i_X7_mostStanding_9 ?_
  refine X_getR i_X7_mostStanding_10 f_X7_9 rfl ?_
  refine Y_callVv (k' := kX0_copyFrom) i_X7_mostStanding_13 l_X7_18 m_X0_copyFrom (c_X0_copyFrom (i := 1) (j := 0) (by omega) (by omega) rfl) rfl rfl rfl rfl rfl ?_
  refine X_iconst i_X7_mostStanding_16 ?_
  refine Y_istore_5 i_X7_mostStanding_17 rfl rfl ?_
  exact loop (t + 1) 0 _ (by omega)
def sMS (A : zAft) (t : Nat) (g : Nat) : Int := sSum (s_X7_minutesStoodBy A g) t
theorem sMS_in (A : zAft) (g : Nat) : ∀ t : Nat, 0 ≤ sMS A t g ∧ sMS A t g ≤ t := by
  intro t
  induction t with
  | zero => simp [sMS, sSum]
  | succ t ih =>
    unfold sMS at ih ⊢
    simp only [sSum, s_X7_minutesStoodBy] at ih ⊢
    split <;> omega
def sLm (f : Nat → Int) : Nat → Int
  | 0 => -9
  | n + 1 => if sLm f n < f n then f n else sLm f n
def sLw (f : Nat → Int) : Nat → Int
  | 0 => -9
  | n + 1 => if sLm f n < f n then n else sLw f n
theorem sLm_in {f : Nat → Int} (h : ∀ g, 0 ≤ f g ∧ f g ≤ 99) : ∀ n, -9 ≤ sLm f n ∧ sLm f n ≤ 99 := by
  intro n
  induction n with
  | zero => simp [sLm]
  | succ n ih =>
    have := h n
    simp only [sLm]; split <;> omega
set_option maxRecDepth 100000 in
theorem c_X7_longestStanding {M : zMem} {A B : zAft} (e : M 0 = A) (hA : zOk 999 A) {t : Nat} (ht : t ≤ 99) {w : Int} (hw : zR w) : zCt kX7_longestStanding 5 [.ref 31, .int (zii t), .int (zii w)] ((zs M 1 B)) (zRetE (.int (zii (if w = 0 then sLw (sMS A t) (sG A) else sLm (sMS A t) (sG A)))) M 1) := by
  subst e
  have h6 := hA.1
  unfold zH at h6
  have hw1 := hw.1
  have hw2 := hw.2
  have hG := sG_le hA.1
  have hsi : ∀ g : Nat, 0 ≤ sMS (M 0) t g ∧ sMS (M 0) t g ≤ 99 := fun g => by have := sMS_in (M 0) g t; omega
  refine zMet (by decide) (Nat.le_of_ble_eq_true rfl) ?_
  show zX kX7_longestStanding 5 0 [some (.ref 31), some (.int (zii t)), some (.int (zii w)), none, none, none, none] [] _ _
  have loop : ∀ (n : Nat) (g : Nat) (lx : Option Value) (C : zAft), g + n = sG (M 0) → zX kX7_longestStanding 5 10 [some (.ref 31), some (.int (zii t)), some (.int (zii w)), some (.int (zii (sLw (sMS (M 0) t) g))), some (.int (zii (sLm (sMS (M 0) t) g))), some (.int (zii g)), lx] [] (zs M 1 C) (zRetE (.int (zii (if w = 0 then sLw (sMS (M 0) t) (sG (M 0)) else sLm (sMS (M 0) t) (sG (M 0))))) M 1) := by
    intro n
    induction n with
    | zero =>
      intro g lx C hg 
      obtain rfl : g = sG (M 0) := by omega
      refine Y_iload_5 i_X7_longestStanding_10 ?_
      refine Y_aload_0 i_X7_longestStanding_12 ?_
      refine X_getR i_X7_longestStanding_13 f_X7_9 rfl ?_
      refine Y_getI i_X7_longestStanding_16 f_X7_59 rfl (zg1 rfl rfl) ?_
      refine X_icmp_ge i_X7_longestStanding_19 (tgt := 51) rfl ⟨by omega, by omega⟩ ⟨by omega, by omega⟩ (fun h19 => ?_) (fun h19 => by exfalso; omega)
      refine Y_iload_2 i_X7_longestStanding_51 ?_
      refine Y_if_ne i_X7_longestStanding_52 (tgt := 59) rfl ⟨by omega, by omega⟩ (fun h52 => ?_) (fun h52 => ?_)
      · refine Y_iload_4 i_X7_longestStanding_59 ?_
        refine X_iret i_X7_longestStanding_61 rfl ?_
        exact zre (by rw [if_neg h52])
      · refine Y_iload_3 i_X7_longestStanding_55 ?_
        refine X_goto i_X7_longestStanding_56 (tgt := 61) rfl ?_
        refine X_iret i_X7_longestStanding_61 rfl ?_
        exact zre (by rw [if_pos h52])
    | succ n ih =>
      intro g lx C hg 
      have hs1 := hsi g
      have hs2 := sLm_in hsi g
      refine Y_iload_5 i_X7_longestStanding_10 ?_
      refine Y_aload_0 i_X7_longestStanding_12 ?_
      refine X_getR i_X7_longestStanding_13 f_X7_9 rfl ?_
      refine Y_getI i_X7_longestStanding_16 f_X7_59 rfl (zg1 rfl rfl) ?_
      refine X_icmp_ge i_X7_longestStanding_19 (tgt := 51) rfl ⟨by omega, by omega⟩ ⟨by omega, by omega⟩ (fun h19 => by exfalso; omega) (fun h19 => ?_)
      refine Y_aload_0 i_X7_longestStanding_22 ?_
      refine Y_iload_5 i_X7_longestStanding_23 ?_
      refine Y_iload_1 i_X7_longestStanding_25 ?_
      refine Y_callVe (k' := kX7_minutesStoodBy) i_X7_longestStanding_26 l_X7_74 m_X7_minutesStoodBy (c_X7_minutesStoodBy (x := (g : Int)) rfl hA ht (by omega) (by omega)) rfl rfl rfl rfl rfl ?_
      intro C1
      change zX _ _ _ _ (.int (zii (sMS (M 0) t g)) :: _) _ _
      refine Y_istore_6 i_X7_longestStanding_29 rfl rfl ?_
      refine Y_iload_6 i_X7_longestStanding_31 ?_
      refine Y_iload_4 i_X7_longestStanding_33 ?_
      refine X_icmp_le i_X7_longestStanding_35 (tgt := 45) rfl ⟨by omega, by omega⟩ ⟨by omega, by omega⟩ (fun h35 => ?_) (fun h35 => ?_)
      · refine Y_iinc_5 i_X7_longestStanding_45 rfl rfl ?_
        refine X_goto i_X7_longestStanding_48 (tgt := 10) rfl ?_
        exact X_eq (ih (g + 1) _ _ (by omega)) (by simp [sLm, sLw, Int.not_lt.mpr h35]; rfl) rfl rfl
      · refine Y_iload_6 i_X7_longestStanding_38 ?_
        refine Y_istore_4 i_X7_longestStanding_40 rfl rfl ?_
        refine Y_iload_5 i_X7_longestStanding_42 ?_
        refine Y_istore_3 i_X7_longestStanding_44 rfl rfl ?_
        refine Y_iinc_5 i_X7_longestStanding_45 rfl rfl ?_
        refine X_goto i_X7_longestStanding_48 (tgt := 10) rfl ?_
        exact X_eq (ih (g + 1) _ _ (by omega)) (by simp [sLm, sLw, Int.not_le.mp h35]; rfl) rfl rfl
  refine X_bipush i_X7_longestStanding_0 (by decide +kernel) ?_
  refine Y_istore_3 i_X7_longestStanding_2 rfl rfl ?_
  refine X_bipush i_X7_longestStanding_3 (by decide +kernel) ?_
  refine Y_istore_4 i_X7_longestStanding_5 rfl rfl ?_
  refine X_iconst i_X7_longestStanding_7 ?_
  refine Y_istore_5 i_X7_longestStanding_8 rfl rfl ?_
  exact loop (sG (M 0)) 0 _ _ (by omega)
def sWh (A : zAft) (x : Int) : Nat := sFst (fun q => decide (sRun A q 3 x = 3)) 100
def sMu (A : zAft) : Nat → Nat
  | 0 => 0
  | n + 1 => if sWh A n = 100 then sMu A n else sMu A n + sWh A n
def sMd (A : zAft) : Nat → Nat
  | 0 => 0
  | n + 1 => if sWh A n = 100 then sMd A n else sMd A n + 1
theorem sMu_in (A : zAft) : ∀ n, sMu A n ≤ 100 * n ∧ sMd A n ≤ n := by
  intro n
  induction n with
  | zero => simp [sMu, sMd]
  | succ n ih =>
    have := sFst_le (fun q => decide (sRun A q 3 (n : Int) = 3)) 100
    have e : sWh A n = sFst (fun q => decide (sRun A q 3 (n : Int) = 3)) 100 := rfl
    simp only [sMu, sMd]
    split <;> omega
def sPart (a b : Nat) (w : Int) : Int := (if w = 0 then (a : Int) else b) / (Nat.gcd a b : Nat)
set_option maxRecDepth 100000 in
theorem c_X7_meanOfLeaving {M : zMem} {A B : zAft} (e : M 0 = A) (hA : zOk 999 A) {w : Int} (hw : zR w) : zCt kX7_meanOfLeaving 6 [.ref 31, .int (zii w)] ((zs M 1 B)) (zRetE (.long (zll (sPart (sMu A (sG A)) (if 1 ≤ sMd A (sG A) then sMd A (sG A) else 1) w))) M 1) := by
  subst e
  have h6 := hA.1
  unfold zH at h6
  have hw1 := hw.1
  have hw2 := hw.2
  have hG := sG_le hA.1
  refine zMet (by decide) (Nat.le_of_ble_eq_true rfl) ?_
  show zX kX7_meanOfLeaving 6 0 [some (.ref 31), some (.int (zii w)), none, none, none, none] [] _ _
  have loop : ∀ (n : Nat) (g : Nat) (lx : Option Value) (C : zAft), g + n = sG (M 0) → zX kX7_meanOfLeaving 6 7 [some (.ref 31), some (.int (zii w)), some (.int (zii (sMu (M 0) g : Nat))), some (.int (zii (sMd (M 0) g : Nat))), some (.int (zii g)), lx] [] (zs M 1 C) (zRetE (.long (zll (sPart (sMu (M 0) (sG (M 0))) (if 1 ≤ sMd (M 0) (sG (M 0)) then sMd (M 0) (sG (M 0)) else 1) w))) M 1) := by
    intro n
    induction n with
    | zero =>
      intro g lx C hg 
      obtain rfl : g = sG (M 0) := by omega
      have hs2 := sMu_in (M 0) (sG (M 0))
      refine Y_iload_4 i_X7_meanOfLeaving_7 ?_
      refine Y_aload_0 i_X7_meanOfLeaving_9 ?_
      refine X_getR i_X7_meanOfLeaving_10 f_X7_9 rfl ?_
      refine Y_getI i_X7_meanOfLeaving_13 f_X7_59 rfl (zg1 rfl rfl) ?_
      refine X_icmp_ge i_X7_meanOfLeaving_16 (tgt := 51) rfl ⟨by omega, by omega⟩ ⟨by omega, by omega⟩ (fun h16 => ?_) (fun h16 => by exfalso; omega)
      refine Y_iload_2 i_X7_meanOfLeaving_51 ?_
      refine X_i2l i_X7_meanOfLeaving_52 ⟨by omega, by omega⟩ ?_
      refine Y_iload_3 i_X7_meanOfLeaving_53 ?_
      refine X_iconst i_X7_meanOfLeaving_54 ?_
      refine X_mmax i_X7_meanOfLeaving_55 lm_X7_84 m_J9_max_7cf53 ⟨by omega, by omega⟩ ⟨by omega, by omega⟩ rfl rfl ?_
      rw [show (if (1 : Int) ≤ (sMd (M 0) (sG (M 0)) : Nat) then ((sMd (M 0) (sG (M 0)) : Nat) : Int) else 1) = ((if 1 ≤ sMd (M 0) (sG (M 0)) then sMd (M 0) (sG (M 0)) else 1 : Nat) : Int) by split <;> split <;> omega]
      have hq9 : 1 ≤ (if 1 ≤ sMd (M 0) (sG (M 0)) then sMd (M 0) (sG (M 0)) else 1) ∧ (if 1 ≤ sMd (M 0) (sG (M 0)) then sMd (M 0) (sG (M 0)) else 1) ≤ 100 := by split <;> omega
      refine X_i2l i_X7_meanOfLeaving_58 ⟨by omega, by omega⟩ ?_
      refine Y_iload_1 i_X7_meanOfLeaving_59 ?_
      refine Y_callS (k' := kX3_part) i_X7_meanOfLeaving_60 l_X7_89 m_X3_part (c_X3_part (by omega) (by omega) (by omega) hw) rfl rfl rfl rfl ?_
      refine X_lret i_X7_meanOfLeaving_63 rfl ?_
      exact zrel rfl
    | succ n ih =>
      intro g lx C hg 
      have hs2 := sMu_in (M 0) g
      have hw9 := sFst_le (fun q => decide (sRun (M 0) q 3 (g : Int) = 3)) 100
      have ew : sWh (M 0) g = sFst (fun q => decide (sRun (M 0) q 3 (g : Int) = 3)) 100 := rfl
      refine Y_iload_4 i_X7_meanOfLeaving_7 ?_
      refine Y_aload_0 i_X7_meanOfLeaving_9 ?_
      refine X_getR i_X7_meanOfLeaving_10 f_X7_9 rfl ?_
      refine Y_getI i_X7_meanOfLeaving_13 f_X7_59 rfl (zg1 rfl rfl) ?_
      refine X_icmp_ge i_X7_meanOfLeaving_16 (tgt := 51) rfl ⟨by omega, by omega⟩ ⟨by omega, by omega⟩ (fun h16 => by exfalso; omega) (fun h16 => ?_)
      refine Y_aload_0 i_X7_meanOfLeaving_19 ?_
      refine Y_iload_4 i_X7_meanOfLeaving_20 ?_
      refine Y_callVe (k' := kX7_whenGone) i_X7_meanOfLeaving_22 l_X7_81 m_X7_whenGone (c_X7_whenGone (x := (g : Int)) rfl hA (by omega) (by omega)) rfl rfl rfl rfl rfl ?_
      intro C1
      change zX _ _ _ _ (.int (zii (sWh (M 0) g : Nat)) :: _) _ _
      refine Y_istore_5 i_X7_meanOfLeaving_25 rfl rfl ?_
      refine Y_iload_5 i_X7_meanOfLeaving_27 ?_
      refine X_bipush i_X7_meanOfLeaving_29 (by decide +kernel) ?_
      refine Y_icmp_ne i_X7_meanOfLeaving_31 (tgt := 37) rfl ⟨by omega, by omega⟩ ⟨by omega, by omega⟩ (fun h31 => ?_) (fun h31 => ?_)
      · refine Y_iload_2 i_X7_meanOfLeaving_37 ?_
        refine Y_iload_5 i_X7_meanOfLeaving_38 ?_
        refine X_iadd i_X7_meanOfLeaving_40 ?_
        refine Y_istore_2 i_X7_meanOfLeaving_41 rfl rfl ?_
        refine Y_iinc_3 i_X7_meanOfLeaving_42 rfl rfl ?_
        refine Y_iinc_4 i_X7_meanOfLeaving_45 rfl rfl ?_
        refine X_goto i_X7_meanOfLeaving_48 (tgt := 7) rfl ?_
        have h31b : ¬ sWh (M 0) g = 100 := by omega
        exact X_eq (ih (g + 1) _ _ (by omega)) (by simp [sMu, sMd, h31b]; rfl) rfl rfl
      · refine X_goto i_X7_meanOfLeaving_34 (tgt := 45) rfl ?_
        refine Y_iinc_4 i_X7_meanOfLeaving_45 rfl rfl ?_
        refine X_goto i_X7_meanOfLeaving_48 (tgt := 7) rfl ?_
        have h31b : sWh (M 0) g = 100 := by omega
        exact X_eq (ih (g + 1) _ _ (by omega)) (by simp [sMu, sMd, h31b]; rfl) rfl rfl
  refine X_iconst i_X7_meanOfLeaving_0 ?_
  refine Y_istore_2 i_X7_meanOfLeaving_1 rfl rfl ?_
  refine X_iconst i_X7_meanOfLeaving_2 ?_
  refine Y_istore_3 i_X7_meanOfLeaving_3 rfl rfl ?_
  refine X_iconst i_X7_meanOfLeaving_4 ?_
  refine Y_istore_4 i_X7_meanOfLeaving_5 rfl rfl ?_
  exact loop (sG (M 0)) 0 _ _ (by omega)
def sGa (A : zAft) : Nat → Int
  | 0 => -1
  | n + 1 => if 0 ≤ sGa A n then sGa A n else if A 3 n = 3 then n else -1
theorem sGa_hit {A : zAft} {g : Nat} (h : sGa A g = -1) (h3 : A 3 g = 3) : ∀ n, g < n → sGa A n = g := by
  intro n
  induction n with
  | zero => intro h9; omega
  | succ n ih =>
    intro h9
    by_cases e : g = n
    · subst e; simp [sGa, h, h3]
    · have := ih (by omega)
      simp only [sGa]; rw [if_pos (by omega), this]
def sFg (A : zAft) : Nat := sFst (fun q => decide (0 ≤ sGa (sRun A q) (sG A))) 100
set_option maxRecDepth 100000 in
theorem c_X7_firstGone {M : zMem} {A B : zAft} (e : M 0 = A) (hA : zOk 999 A) : zCt kX7_firstGone 4 [.ref 31] ((zs M 1 B)) (zRetE (.int (zii (if sFg A = 100 then -9 else sGa (sRun A (sFg A)) (sG A)))) M 1) := by
  subst e
  have h6 := hA.1
  unfold zH at h6
  have hG := sG_le hA.1
  refine zMet (by decide) (Nat.le_of_ble_eq_true rfl) ?_
  show zX kX7_firstGone 4 0 [some (.ref 31), none, none] [] _ _
  have loop : ∀ (n : Nat) (j : Nat) (lx : Option Value), j + n = 100 → (∀ q, q < j → (fun q => decide (0 ≤ sGa (sRun (M 0) q) (sG (M 0)))) q = false) → zX kX7_firstGone 4 13 [some (.ref 31), some (.int (zii j)), lx] [] (zs M 1 (sRun (M 0) j)) (zRetE (.int (zii (if sFg (M 0) = 100 then -9 else sGa (sRun (M 0) (sFg (M 0))) (sG (M 0))))) M 1) := by
    intro n
    induction n with
    | zero =>
      intro j lx hg hno
      obtain rfl : j = 100 := by omega
      have e9 : sFg (M 0) = 100 := sFst_none 100 hno
      refine Y_iload_1 i_X7_firstGone_13 ?_
      refine X_bipush i_X7_firstGone_14 (by decide +kernel) ?_
      refine X_icmp_gt i_X7_firstGone_16 (tgt := 66) rfl ⟨by omega, by omega⟩ ⟨by omega, by omega⟩ (fun h16 => ?_) (fun h16 => by exfalso; omega)
      refine X_bipush i_X7_firstGone_66 (by decide +kernel) ?_
      refine X_iret i_X7_firstGone_68 rfl ?_
      exact zre (by rw [if_pos e9])
    | succ n ih =>
      intro j lx hg hno
      have hO := sRun_ok hA j
      have hg0 := sRun_6 (M 0) 0 (by omega) (by omega) j
      have inner : ∀ (m : Nat) (g : Nat), g + m = sG (M 0) → sGa (sRun (M 0) j) g = -1 → zX kX7_firstGone 4 21 [some (.ref 31), some (.int (zii j)), some (.int (zii g))] [] (zs M 1 (sRun (M 0) j)) (zRetE (.int (zii (if sFg (M 0) = 100 then -9 else sGa (sRun (M 0) (sFg (M 0))) (sG (M 0))))) M 1) := by
        intro m
        induction m with
        | zero =>
          intro g  hg hga
          obtain rfl : g = sG (M 0) := by omega
          refine Y_iload_2 i_X7_firstGone_21 ?_
          refine Y_aload_0 i_X7_firstGone_22 ?_
          refine X_getR i_X7_firstGone_23 f_X7_15 rfl ?_
          refine Y_getI i_X7_firstGone_26 f_X7_59 rfl (zg0 _ _ _ _ _) ?_
          refine X_icmp_ge i_X7_firstGone_29 (tgt := 53) rfl ⟨by omega, by omega⟩ ⟨by omega, by omega⟩ (fun h29 => ?_) (fun h29 => by exfalso; omega)
          refine Y_aload_0 i_X7_firstGone_53 ?_
          refine X_getR i_X7_firstGone_54 f_X7_15 rfl ?_
          refine Y_callVv (k' := kX0_passOne) i_X7_firstGone_57 l_X7_62 m_X0_passOne (c_X0_passOne (i := 1) (by omega) hO (by omega)) rfl rfl rfl rfl rfl ?_
          refine Y_iinc_1 i_X7_firstGone_60 rfl rfl ?_
          refine X_goto i_X7_firstGone_63 (tgt := 13) rfl ?_
          exact X_eq (ih (j + 1) _ (by omega) (fun q hq => by
            by_cases e : q = j
            · subst e; exact decide_eq_false (by rw [hga]; omega)
            · exact hno q (by omega))) (by simp; rfl) rfl rfl
        | succ m ih2 =>
          intro g  hg hga
          have hgg := hO.2 g (by omega) (by omega)
          unfold zG at hgg
          refine Y_iload_2 i_X7_firstGone_21 ?_
          refine Y_aload_0 i_X7_firstGone_22 ?_
          refine X_getR i_X7_firstGone_23 f_X7_15 rfl ?_
          refine Y_getI i_X7_firstGone_26 f_X7_59 rfl (zg0 _ _ _ _ _) ?_
          refine X_icmp_ge i_X7_firstGone_29 (tgt := 53) rfl ⟨by omega, by omega⟩ ⟨by omega, by omega⟩ (fun h29 => by exfalso; omega) (fun h29 => ?_)
          refine Y_aload_0 i_X7_firstGone_32 ?_
          refine X_getR i_X7_firstGone_33 f_X7_15 rfl ?_
          refine X_getR i_X7_firstGone_36 f_X7_31 rfl ?_
          refine Y_iload_2 i_X7_firstGone_39 ?_
          refine Y_iald i_X7_firstGone_40 rfl ⟨by omega, by omega⟩ rfl (zg0 _ _ _ _ _) ?_
          refine X_iconst i_X7_firstGone_41 ?_
          refine Y_icmp_ne i_X7_firstGone_42 (tgt := 47) rfl ⟨by omega, by omega⟩ ⟨by omega, by omega⟩ (fun h42 => ?_) (fun h42 => ?_)
          · refine Y_iinc_2 i_X7_firstGone_47 rfl rfl ?_
            refine X_goto i_X7_firstGone_50 (tgt := 21) rfl ?_
            exact X_eq (ih2 (g + 1) (by omega) (by simp [sGa, hga, h42])) (by simp) rfl rfl
          · refine Y_iload_2 i_X7_firstGone_45 ?_
            refine X_iret i_X7_firstGone_46 rfl ?_
            have e8 := sGa_hit hga h42 (sG (M 0)) (by omega)
            have e9 : sFg (M 0) = j := sFst_eq hno (decide_eq_true (by rw [e8]; omega)) 100 (by omega)
            exact zre (by rw [if_neg (by omega), e9, e8])
      refine Y_iload_1 i_X7_firstGone_13 ?_
      refine X_bipush i_X7_firstGone_14 (by decide +kernel) ?_
      refine X_icmp_gt i_X7_firstGone_16 (tgt := 66) rfl ⟨by omega, by omega⟩ ⟨by omega, by omega⟩ (fun h16 => by exfalso; omega) (fun h16 => ?_)
      refine X_iconst i_X7_firstGone_19 ?_
      refine Y_istore_2 i_X7_firstGone_20 rfl rfl ?_
      exact inner (sG (M 0)) 0 (by omega) rfl
  refine Y_aload_0 i_X7_firstGone_0 ?_
  refine X_getR i_X7_firstGone_1 f_X7_15 rfl ?_
  refine Y_aload_0 i_X7_firstGone_4 ?_
  refine X_getR i_X7_firstGone_5 f_X7_9 rfl ?_
  refine Y_callVv (k' := kX0_copyFrom) i_X7_firstGone_8 l_X7_18 m_X0_copyFrom (c_X0_copyFrom (i := 1) (j := 0) (by omega) (by omega) rfl) rfl rfl rfl rfl rfl ?_
  refine X_iconst i_X7_firstGone_11 ?_
  refine Y_istore_1 i_X7_firstGone_12 rfl rfl ?_
  exact loop 100 0 _ (by omega) (fun q h => absurd h (by omega))
def sN0 (A : zAft) : Nat → Int
  | 0 => 0
  | n + 1 => if A 5 n = 0 then zor (sN0 A n) (zshl 1 n) else sN0 A n
def sNv (A : zAft) : Nat → Int
  | 0 => sN0 A (sG A)
  | n + 1 => zand (sNv A n) (zxor (sSet (sRun A n) 2 (sG A)) (-1))
set_option maxRecDepth 100000 in
theorem c_X7_neverServed {M : zMem} {A B : zAft} (e : M 0 = A) (hA : zOk 999 A) : zCt kX7_neverServed 4 [.ref 31] ((zs M 1 B)) (zRetE (.int (zii (sNv A 100))) M 1) := by
  subst e
  have h6 := hA.1
  unfold zH at h6
  have hG := sG_le hA.1
  refine zMet (by decide) (Nat.le_of_ble_eq_true rfl) ?_
  show zX kX7_neverServed 4 0 [some (.ref 31), none, none] [] _ _
  have loop2 : ∀ (n : Nat) (j : Nat), j + n = 100 → zX kX7_neverServed 4 52 [some (.ref 31), some (.int (zii (sNv (M 0) j))), some (.int (zii j))] [] (zs M 1 (sRun (M 0) j)) (zRetE (.int (zii (sNv (M 0) 100))) M 1) := by
    intro n
    induction n with
    | zero =>
      intro j  hg 
      refine Y_iload_2 i_X7_neverServed_52 ?_
      refine X_bipush i_X7_neverServed_53 (by decide +kernel) ?_
      refine X_icmp_gt i_X7_neverServed_55 (tgt := 84) rfl ⟨by omega, by omega⟩ ⟨by omega, by omega⟩ (fun h55 => ?_) (fun h55 => by exfalso; omega)
      refine Y_iload_1 i_X7_neverServed_84 ?_
      refine X_iret i_X7_neverServed_85 rfl ?_
      exact zre (by rw [show j = 100 by omega])
    | succ n ih =>
      intro j  hg 
      have hO := sRun_ok hA j
      refine Y_iload_2 i_X7_neverServed_52 ?_
      refine X_bipush i_X7_neverServed_53 (by decide +kernel) ?_
      refine X_icmp_gt i_X7_neverServed_55 (tgt := 84) rfl ⟨by omega, by omega⟩ ⟨by omega, by omega⟩ (fun h55 => by exfalso; omega) (fun h55 => ?_)
      refine Y_iload_1 i_X7_neverServed_58 ?_
      refine Y_aload_0 i_X7_neverServed_59 ?_
      refine X_getR i_X7_neverServed_60 f_X7_15 rfl ?_
      refine X_iconst i_X7_neverServed_63 ?_
      refine Y_callV (k' := kX0_setOf) i_X7_neverServed_64 l_X7_65 m_X0_setOf (c_X0_setOf (i := 1) (by omega) (zs_self _ _ _) hO (zR_lit rfl)) rfl rfl rfl rfl rfl ?_
      refine X_iconst i_X7_neverServed_67 ?_
      refine X_ixor i_X7_neverServed_68 ?_
      refine X_iand i_X7_neverServed_69 ?_
      refine Y_istore_1 i_X7_neverServed_70 rfl rfl ?_
      refine Y_aload_0 i_X7_neverServed_71 ?_
      refine X_getR i_X7_neverServed_72 f_X7_15 rfl ?_
      refine Y_callVv (k' := kX0_passOne) i_X7_neverServed_75 l_X7_62 m_X0_passOne (c_X0_passOne (i := 1) (by omega) hO (by omega)) rfl rfl rfl rfl rfl ?_
      refine Y_iinc_2 i_X7_neverServed_78 rfl rfl ?_
      refine X_goto i_X7_neverServed_81 (tgt := 52) rfl ?_
      exact X_eq (ih (j + 1) (by omega)) (by simp [sNv, sRun_G]) rfl rfl
  have loop : ∀ (n : Nat) (g : Nat), g + n = sG (M 0) → zX kX7_neverServed 4 4 [some (.ref 31), some (.int (zii (sN0 (M 0) g))), some (.int (zii g))] [] (zs M 1 B) (zRetE (.int (zii (sNv (M 0) 100))) M 1) := by
    intro n
    induction n with
    | zero =>
      intro g  hg 
      refine Y_iload_2 i_X7_neverServed_4 ?_
      refine Y_aload_0 i_X7_neverServed_5 ?_
      refine X_getR i_X7_neverServed_6 f_X7_9 rfl ?_
      refine Y_getI i_X7_neverServed_9 f_X7_59 rfl (zg1 rfl rfl) ?_
      refine X_icmp_ge i_X7_neverServed_12 (tgt := 39) rfl ⟨by omega, by omega⟩ ⟨by omega, by omega⟩ (fun h12 => ?_) (fun h12 => by exfalso; omega)
      refine Y_aload_0 i_X7_neverServed_39 ?_
      refine X_getR i_X7_neverServed_40 f_X7_15 rfl ?_
      refine Y_aload_0 i_X7_neverServed_43 ?_
      refine X_getR i_X7_neverServed_44 f_X7_9 rfl ?_
      refine Y_callVv (k' := kX0_copyFrom) i_X7_neverServed_47 l_X7_18 m_X0_copyFrom (c_X0_copyFrom (i := 1) (j := 0) (by omega) (by omega) rfl) rfl rfl rfl rfl rfl ?_
      refine X_iconst i_X7_neverServed_50 ?_
      refine Y_istore_2 i_X7_neverServed_51 rfl rfl ?_
      exact X_eq (loop2 100 0 (by omega)) (by simp [sNv, show g = sG (M 0) by omega]) rfl rfl
    | succ n ih =>
      intro g  hg 
      have hgg := hA.2 g (by omega) (by omega)
      unfold zG at hgg
      refine Y_iload_2 i_X7_neverServed_4 ?_
      refine Y_aload_0 i_X7_neverServed_5 ?_
      refine X_getR i_X7_neverServed_6 f_X7_9 rfl ?_
      refine Y_getI i_X7_neverServed_9 f_X7_59 rfl (zg1 rfl rfl) ?_
      refine X_icmp_ge i_X7_neverServed_12 (tgt := 39) rfl ⟨by omega, by omega⟩ ⟨by omega, by omega⟩ (fun h12 => by exfalso; omega) (fun h12 => ?_)
      refine Y_aload_0 i_X7_neverServed_15 ?_
      refine X_getR i_X7_neverServed_16 f_X7_9 rfl ?_
      refine X_getR i_X7_neverServed_19 f_X7_38 rfl ?_
      refine Y_iload_2 i_X7_neverServed_22 ?_
      refine Y_iald i_X7_neverServed_23 rfl ⟨by omega, by omega⟩ rfl (zg1 rfl rfl) ?_
      refine Y_if_ne i_X7_neverServed_24 (tgt := 33) rfl ⟨by omega, by omega⟩ (fun h24 => ?_) (fun h24 => ?_)
      · refine Y_iinc_2 i_X7_neverServed_33 rfl rfl ?_
        refine X_goto i_X7_neverServed_36 (tgt := 4) rfl ?_
        exact X_eq (ih (g + 1) (by omega)) (by simp [sN0, h24]) rfl rfl
      · refine Y_iload_1 i_X7_neverServed_27 ?_
        refine X_iconst i_X7_neverServed_28 ?_
        refine Y_iload_2 i_X7_neverServed_29 ?_
        refine X_ishl i_X7_neverServed_30 ?_
        refine X_ior i_X7_neverServed_31 ?_
        refine Y_istore_1 i_X7_neverServed_32 rfl rfl ?_
        refine Y_iinc_2 i_X7_neverServed_33 rfl rfl ?_
        refine X_goto i_X7_neverServed_36 (tgt := 4) rfl ?_
        exact X_eq (ih (g + 1) (by omega)) (by simp [sN0, h24]) rfl rfl
  refine X_iconst i_X7_neverServed_0 ?_
  refine Y_istore_1 i_X7_neverServed_1 rfl rfl ?_
  refine X_iconst i_X7_neverServed_2 ?_
  refine Y_istore_2 i_X7_neverServed_3 rfl rfl ?_
  exact loop (sG (M 0)) 0 (by omega)
def sPl : Nat → zAft → List Int
  | 0, _ => []
  | n + 1, A => if sPr A < 0 then [] else sPr A :: sPl n (sP1 A)
def sSl (A : zAft) : Nat → List Int
  | 0 => []
  | n + 1 => sSl A n ++ sPl 6 (sUns (sRun A n))
def sSv (A : zAft) (x : Int) : Int := (sSl A 99).getD x.toNat (-9)
theorem getD_app1 {l l2 : List Int} {n : Nat} (h : n < l.length) : (l ++ l2).getD n (-9) = l.getD n (-9) := by
  simp [List.getD_eq_getElem?_getD, List.getElem?_append_left h]
theorem getD_app2 {l l2 : List Int} {n : Nat} (h : l.length ≤ n) : (l ++ l2).getD n (-9) = l2.getD (n - l.length) (-9) := by
  simp [List.getD_eq_getElem?_getD, List.getElem?_append_right h]
theorem sSl_pre (A : zAft) : ∀ {m n : Nat}, n ≤ m → ∃ l, sSl A m = sSl A n ++ l := by
  intro m
  induction m with
  | zero => intro n h; rw [show n = 0 by omega]; exact ⟨[], by simp⟩
  | succ m ih =>
    intro n h
    by_cases e : n = m + 1
    · subst e; exact ⟨[], by simp⟩
    · obtain ⟨l, hl⟩ := ih (n := n) (by omega)
      exact ⟨l ++ sPl 6 (sUns (sRun A m)), by simp only [sSl]; rw [hl, List.append_assoc]⟩
set_option maxRecDepth 100000 in
theorem c_X7_servedAs {M : zMem} {A B : zAft} (e : M 0 = A) (hA : zOk 999 A) {x : Int} (x0 : 0 ≤ x) (hx : zR x) : zCt kX7_servedAs 3 [.ref 31, .int (zii x)] ((zs M 1 B)) (zRetE (.int (zii (sSv A x))) M 1) := by
  subst e
  have h6 := hA.1
  unfold zH at h6
  have hx1 := hx.1
  have hx2 := hx.2
  have hG := sG_le hA.1
  refine zMet (by decide) (Nat.le_of_ble_eq_true rfl) ?_
  show zX kX7_servedAs 3 0 [some (.ref 31), some (.int (zii x)), none, none, none, none] [] _ _
  have loop : ∀ (n : Nat) (j : Nat) (lx ly : Option Value) (K : Nat), j + n = 99 → (sSl (M 0) j).length = K → K ≤ x → zX kX7_servedAs 3 15 [some (.ref 31), some (.int (zii x)), some (.int (zii (x - K))), some (.int (zii ((j : Int) + 1))), lx, ly] [] (zs M 1 (sRun (M 0) j)) (zRetE (.int (zii (sSv (M 0) x))) M 1) := by
    intro n
    induction n with
    | zero =>
      intro j lx ly K hg hK1 hK2
      obtain rfl : j = 99 := by omega
      refine Y_iload_3 i_X7_servedAs_15 ?_
      refine X_bipush i_X7_servedAs_16 (by decide +kernel) ?_
      refine X_icmp_gt i_X7_servedAs_18 (tgt := 78) rfl ⟨by omega, by omega⟩ ⟨by omega, by omega⟩ (fun h18 => ?_) (fun h18 => by exfalso; omega)
      refine X_bipush i_X7_servedAs_78 (by decide +kernel) ?_
      refine X_iret i_X7_servedAs_80 rfl ?_
      exact zre (by unfold sSv; rw [List.getD_eq_getElem?_getD, List.getElem?_eq_none (by omega)]; rfl)
    | succ n ih =>
      intro j lx ly K hg hK1 hK2
      have hO := sRun_ok hA j
      have hO9 := hO.1
      unfold zH at hO9
      have inner : ∀ (m : Nat) (i : Nat) (K : Nat) (C : zAft) (ly : Option Value), i + m = 6 → zOk (999 + j + 1) C → C 6 4 + m ≤ 6 * C 6 3 → K ≤ x → sPn C m = sRun (M 0) (j + 1) → (∃ p, sSl (M 0) (j + 1) = p ++ sPl m C ∧ p.length = K) → zX kX7_servedAs 3 31 [some (.ref 31), some (.int (zii x)), some (.int (zii (x - K))), some (.int (zii ((j : Int) + 1))), some (.int (zii i)), ly] [] (zs M 1 C) (zRetE (.int (zii (sSv (M 0) x))) M 1) := by
        intro m
        induction m with
        | zero =>
          intro i K C ly hg hC hC6 hK hCr hCl
          refine Y_iload_4 i_X7_servedAs_31 ?_
          refine X_bipush i_X7_servedAs_33 (by decide +kernel) ?_
          refine X_icmp_ge i_X7_servedAs_35 (tgt := 72) rfl ⟨by omega, by omega⟩ ⟨by omega, by omega⟩ (fun h35 => ?_) (fun h35 => by exfalso; omega)
          refine Y_iinc_3 i_X7_servedAs_72 rfl rfl ?_
          refine X_goto i_X7_servedAs_75 (tgt := 15) rfl ?_
          obtain ⟨p, hp1, hp2⟩ := hCl
          have hp3 : sSl (M 0) (j + 1) = p := by rw [hp1]; simp [sPl]
          rw [show C = sRun (M 0) (j + 1) from hCr]
          exact X_eq (ih (j + 1) _ _ K (by omega) (by rw [hp3]; exact hp2) hK) (by simp; exact ⟨rfl, rfl⟩) rfl rfl
        | succ m ih2 =>
          intro i K C ly hg hC hC6 hK hCr hCl
          have hC9 := hC.1
          unfold zH at hC9
          have hq := sPr_in hC.1
          have hq1 := sP1_64 C
          have hq2 := sP1_6 C 3 (by omega)
          obtain ⟨p, hp1, hp2⟩ := hCl
          refine Y_iload_4 i_X7_servedAs_31 ?_
          refine X_bipush i_X7_servedAs_33 (by decide +kernel) ?_
          refine X_icmp_ge i_X7_servedAs_35 (tgt := 72) rfl ⟨by omega, by omega⟩ ⟨by omega, by omega⟩ (fun h35 => by exfalso; omega) (fun h35 => ?_)
          refine Y_aload_0 i_X7_servedAs_38 ?_
          refine X_getR i_X7_servedAs_39 f_X7_15 rfl ?_
          refine Y_callV (k' := kX0_pourOne) i_X7_servedAs_42 l_X7_71 m_X0_pourOne (c_X0_pourOne (i := 1) (by omega) hC (by omega)) rfl rfl rfl rfl rfl ?_
          refine Y_istore_5 i_X7_servedAs_45 rfl rfl ?_
          refine Y_iload_5 i_X7_servedAs_47 ?_
          refine X_iconst i_X7_servedAs_49 ?_
          refine Y_icmp_ne i_X7_servedAs_50 (tgt := 56) rfl ⟨by omega, by omega⟩ ⟨by omega, by omega⟩ (fun h50 => ?_) (fun h50 => ?_)
          · refine Y_iload_2 i_X7_servedAs_56 ?_
            refine Y_if_ne i_X7_servedAs_57 (tgt := 63) rfl ⟨by omega, by omega⟩ (fun h57 => ?_) (fun h57 => ?_)
            · refine Y_iinc_2 i_X7_servedAs_63 rfl rfl ?_
              refine Y_iinc_4 i_X7_servedAs_66 rfl rfl ?_
              refine X_goto i_X7_servedAs_69 (tgt := 31) rfl ?_
              have e8 : sPl (m + 1) C = sPr C :: sPl m (sP1 C) := by simp only [sPl]; rw [if_neg (by omega)]
              have e7 : sPn C (m + 1) = sPn (sP1 C) m := by simp only [sPn]; rw [if_neg (by omega)]
              exact X_eq (ih2 (i + 1) (K + 1) (sP1 C) _ (by omega) (sP1_ok hC (by omega)) (by omega) (by omega) (by rw [← e7]; exact hCr) ⟨p ++ [sPr C], by rw [hp1, e8]; simp, by simp; omega⟩) (by rw [show x - ((K + 1 : Nat) : Int) = x - (K : Int) + -1 by omega]; rfl) rfl rfl
            · refine Y_iload_5 i_X7_servedAs_60 ?_
              refine X_iret i_X7_servedAs_62 rfl ?_
              have e8 : sPl (m + 1) C = sPr C :: sPl m (sP1 C) := by simp only [sPl]; rw [if_neg (by omega)]
              rw [e8] at hp1
              obtain ⟨l9, hl9⟩ := sSl_pre (M 0) (m := 99) (n := j + 1) (by omega)
              exact zre (by unfold sSv; rw [hl9, hp1, List.append_assoc, getD_app2 (by omega), show x.toNat - p.length = 0 by omega]; rfl)
          · refine X_goto i_X7_servedAs_53 (tgt := 72) rfl ?_
            refine Y_iinc_3 i_X7_servedAs_72 rfl rfl ?_
            refine X_goto i_X7_servedAs_75 (tgt := 15) rfl ?_
            have e8 : sPl (m + 1) C = [] := by simp only [sPl]; rw [if_pos (by omega)]
            have e7 : sPn C (m + 1) = C := by simp only [sPn]; rw [if_pos (by omega)]
            have e6 : sP1 C = C := by unfold sP1; rw [if_pos (by omega)]
            have hp3 : sSl (M 0) (j + 1) = p := by rw [hp1, e8]; simp
            rw [e6, show C = sRun (M 0) (j + 1) by rw [← hCr, e7]]
            exact X_eq (ih (j + 1) _ _ K (by omega) (by rw [hp3]; exact hp2) hK) (by simp; exact ⟨rfl, rfl⟩) rfl rfl
      refine Y_iload_3 i_X7_servedAs_15 ?_
      refine X_bipush i_X7_servedAs_16 (by decide +kernel) ?_
      refine X_icmp_gt i_X7_servedAs_18 (tgt := 78) rfl ⟨by omega, by omega⟩ ⟨by omega, by omega⟩ (fun h18 => by exfalso; omega) (fun h18 => ?_)
      refine Y_aload_0 i_X7_servedAs_21 ?_
      refine X_getR i_X7_servedAs_22 f_X7_15 rfl ?_
      refine Y_callVv (k' := kX0_passUnserved) i_X7_servedAs_25 l_X7_68 m_X0_passUnserved (c_X0_passUnserved (i := 1) (by omega) hO) rfl rfl rfl rfl rfl ?_
      refine X_iconst i_X7_servedAs_28 ?_
      refine Y_istore_4 i_X7_servedAs_29 rfl rfl ?_
      exact inner 6 0 K _ _ (by omega) (sUns_ok hO) (by rw [sUns_6, sUns_6]; simp; omega) hK2 rfl ⟨_, rfl, hK1⟩
  refine Y_iload_1 i_X7_servedAs_0 ?_
  refine Y_istore_2 i_X7_servedAs_1 rfl rfl ?_
  refine Y_aload_0 i_X7_servedAs_2 ?_
  refine X_getR i_X7_servedAs_3 f_X7_15 rfl ?_
  refine Y_aload_0 i_X7_servedAs_6 ?_
  refine X_getR i_X7_servedAs_7 f_X7_9 rfl ?_
  refine Y_callVv (k' := kX0_copyFrom) i_X7_servedAs_10 l_X7_18 m_X0_copyFrom (c_X0_copyFrom (i := 1) (j := 0) (by omega) (by omega) rfl) rfl rfl rfl rfl rfl ?_
  refine X_iconst i_X7_servedAs_13 ?_
  refine Y_istore_3 i_X7_servedAs_14 rfl rfl ?_
  exact X_eq (loop 99 0 _ _ 0 (by omega) rfl (by omega)) (by simp; exact ⟨rfl, rfl⟩) rfl rfl
/-- who leaves between A and B: those gone in B and not in A, by numbers -/
def sGl (A B : zAft) : Nat → List Int
  | 0 => []
  | n + 1 => if sBit (zand (sSet B 3 (sG A)) (zxor (sSet A 3 (sG A)) (-1))) n = 0 then sGl A B n else sGl A B n ++ [(n : Int)]
def sLl (A : zAft) : Nat → List Int
  | 0 => []
  | n + 1 => sLl A n ++ sGl (sRun A n) (sRun A (n + 1)) (sG A)
def sLe (A : zAft) (x : Int) : Int := (sLl A 99).getD x.toNat (-9)
theorem sLl_pre (A : zAft) : ∀ {m n : Nat}, n ≤ m → ∃ l, sLl A m = sLl A n ++ l := by
  intro m
  induction m with
  | zero => intro n h; rw [show n = 0 by omega]; exact ⟨[], by simp⟩
  | succ m ih =>
    intro n h
    by_cases e : n = m + 1
    · subst e; exact ⟨[], by simp⟩
    · obtain ⟨l, hl⟩ := ih (n := n) (by omega)
      exact ⟨l ++ sGl (sRun A m) (sRun A (m + 1)) (sG A), by simp only [sLl]; rw [hl, List.append_assoc]⟩
theorem sGl_pre (A B : zAft) : ∀ {m n : Nat}, n ≤ m → ∃ l, sGl A B m = sGl A B n ++ l := by
  intro m
  induction m with
  | zero => intro n h; rw [show n = 0 by omega]; exact ⟨[], by simp⟩
  | succ m ih =>
    intro n h
    by_cases e : n = m + 1
    · subst e; exact ⟨[], by simp⟩
    · obtain ⟨l, hl⟩ := ih (n := n) (by omega)
      simp only [sGl]
      split
      · exact ⟨l, hl⟩
      · exact ⟨l ++ [(m : Int)], by rw [hl, List.append_assoc]⟩
set_option maxRecDepth 100000 in
theorem c_X7_leaverAt {M : zMem} {A B : zAft} (e : M 0 = A) (hA : zOk 999 A) {x : Int} (x0 : 0 ≤ x) (hx : zR x) : zCt kX7_leaverAt 4 [.ref 31, .int (zii x)] ((zs M 1 B)) (zRetE (.int (zii (sLe A x))) M 1) := by
  subst e
  have h6 := hA.1
  unfold zH at h6
  have hx1 := hx.1
  have hx2 := hx.2
  have hG := sG_le hA.1
  refine zMet (by decide) (Nat.le_of_ble_eq_true rfl) ?_
  show zX kX7_leaverAt 4 0 [some (.ref 31), some (.int (zii x)), none, none, none, none, none] [] _ _
  have loop : ∀ (n : Nat) (j : Nat) (lx ly lz : Option Value) (K : Nat), j + n = 99 → (sLl (M 0) j).length = K → K ≤ x → zX kX7_leaverAt 4 15 [some (.ref 31), some (.int (zii x)), some (.int (zii (x - K))), some (.int (zii ((j : Int) + 1))), lx, ly, lz] [] (zs M 1 (sRun (M 0) j)) (zRetE (.int (zii (sLe (M 0) x))) M 1) := by
    intro n
    induction n with
    | zero =>
      intro j lx ly lz K hg hK1 hK2
      obtain rfl : j = 99 := by omega
      refine Y_iload_3 i_X7_leaverAt_15 ?_
      refine X_bipush i_X7_leaverAt_16 (by decide +kernel) ?_
      refine X_icmp_gt i_X7_leaverAt_18 (tgt := 103) rfl ⟨by omega, by omega⟩ ⟨by omega, by omega⟩ (fun h18 => ?_) (fun h18 => by exfalso; omega)
      refine X_bipush i_X7_leaverAt_103 (by decide +kernel) ?_
      refine X_iret i_X7_leaverAt_105 rfl ?_
      exact zre (by unfold sLe; rw [List.getD_eq_getElem?_getD, List.getElem?_eq_none (by omega)]; rfl)
    | succ n ih =>
      intro j lx ly lz K hg hK1 hK2
      have hO := sRun_ok hA j
      have hO1 := sRun_ok hA (j + 1)
      have hg0 := sRun_6 (M 0) 0 (by omega) (by omega) (j + 1)
      have inner : ∀ (m : Nat) (g : Nat) (K : Nat), g + m = sG (M 0) → K ≤ x → (sLl (M 0) j ++ sGl (sRun (M 0) j) (sRun (M 0) (j + 1)) g).length = K → zX kX7_leaverAt 4 56 [some (.ref 31), some (.int (zii x)), some (.int (zii (x - K))), some (.int (zii ((j : Int) + 1))), some (.int (zii (sSet (sRun (M 0) j) 3 (sG (M 0))))), some (.int (zii (zand (sSet (sRun (M 0) (j + 1)) 3 (sG (M 0))) (zxor (sSet (sRun (M 0) j) 3 (sG (M 0))) (-1))))), some (.int (zii g))] [] (zs M 1 (sRun (M 0) (j + 1))) (zRetE (.int (zii (sLe (M 0) x))) M 1) := by
        intro m
        induction m with
        | zero =>
          intro g K hg hK hl
          obtain rfl : g = sG (M 0) := by omega
          refine Y_iload_6 i_X7_leaverAt_56 ?_
          refine Y_aload_0 i_X7_leaverAt_58 ?_
          refine X_getR i_X7_leaverAt_59 f_X7_15 rfl ?_
          refine Y_getI i_X7_leaverAt_62 f_X7_59 rfl (zg0 _ _ _ _ _) ?_
          refine X_icmp_ge i_X7_leaverAt_65 (tgt := 97) rfl ⟨by omega, by omega⟩ ⟨by omega, by omega⟩ (fun h65 => ?_) (fun h65 => by exfalso; omega)
          refine Y_iinc_3 i_X7_leaverAt_97 rfl rfl ?_
          refine X_goto i_X7_leaverAt_100 (tgt := 15) rfl ?_
          exact X_eq (ih (j + 1) _ _ _ K (by omega) hl hK) (by simp; exact ⟨rfl, rfl, rfl⟩) rfl rfl
        | succ m ih2 =>
          intro g K hg hK hl
          have hbb := sBit_in (zand (sSet (sRun (M 0) (j + 1)) 3 (sG (M 0))) (zxor (sSet (sRun (M 0) j) 3 (sG (M 0))) (-1))) g
          have hbe : zand (zshr (zand (sSet (sRun (M 0) (j + 1)) 3 (sG (M 0))) (zxor (sSet (sRun (M 0) j) 3 (sG (M 0))) (-1))) g) 1 = sBit (zand (sSet (sRun (M 0) (j + 1)) 3 (sG (M 0))) (zxor (sSet (sRun (M 0) j) 3 (sG (M 0))) (-1))) g := rfl
          have hgq : sG (sRun (M 0) j) = sG (M 0) := sRun_G (M 0) j
          refine Y_iload_6 i_X7_leaverAt_56 ?_
          refine Y_aload_0 i_X7_leaverAt_58 ?_
          refine X_getR i_X7_leaverAt_59 f_X7_15 rfl ?_
          refine Y_getI i_X7_leaverAt_62 f_X7_59 rfl (zg0 _ _ _ _ _) ?_
          refine X_icmp_ge i_X7_leaverAt_65 (tgt := 97) rfl ⟨by omega, by omega⟩ ⟨by omega, by omega⟩ (fun h65 => by exfalso; omega) (fun h65 => ?_)
          refine Y_iload_5 i_X7_leaverAt_68 ?_
          refine Y_iload_6 i_X7_leaverAt_70 ?_
          refine X_ishr i_X7_leaverAt_72 ?_
          refine X_iconst i_X7_leaverAt_73 ?_
          refine X_iand i_X7_leaverAt_74 ?_
          refine Y_if_ne i_X7_leaverAt_75 (tgt := 81) rfl ⟨by omega, by omega⟩ (fun h75 => ?_) (fun h75 => ?_)
          · refine Y_iload_2 i_X7_leaverAt_81 ?_
            refine Y_if_ne i_X7_leaverAt_82 (tgt := 88) rfl ⟨by omega, by omega⟩ (fun h82 => ?_) (fun h82 => ?_)
            · refine Y_iinc_2 i_X7_leaverAt_88 rfl rfl ?_
              refine Y_iinc_6 i_X7_leaverAt_91 rfl rfl ?_
              refine X_goto i_X7_leaverAt_94 (tgt := 56) rfl ?_
              exact X_eq (ih2 (g + 1) (K + 1) (by omega) (by omega) (by simp only [sGl]; rw [hgq, if_neg (by omega), ← List.append_assoc, List.length_append, hl]; rfl)) (by rw [show x - ((K + 1 : Nat) : Int) = x - (K : Int) + -1 by omega]; rfl) rfl rfl
            · refine Y_iload_6 i_X7_leaverAt_85 ?_
              refine X_iret i_X7_leaverAt_87 rfl ?_
              have e8 : sGl (sRun (M 0) j) (sRun (M 0) (j + 1)) (g + 1) = sGl (sRun (M 0) j) (sRun (M 0) (j + 1)) g ++ [(g : Int)] := by simp only [sGl]; rw [hgq, if_neg (by omega)]
              obtain ⟨l9, hl9⟩ := sLl_pre (M 0) (m := 99) (n := j + 1) (by omega)
              obtain ⟨l8, hl8⟩ := sGl_pre (sRun (M 0) j) (sRun (M 0) (j + 1)) (m := sG (M 0)) (n := g + 1) (by omega)
              exact zre (by unfold sLe; rw [hl9]; simp only [sLl]; rw [hl8, e8, List.append_assoc, List.append_assoc, List.append_assoc, ← List.append_assoc, getD_app2 (by omega), show x.toNat - (sLl (M 0) j ++ sGl (sRun (M 0) j) (sRun (M 0) (j + 1)) g).length = 0 by omega]; rfl)
          · refine X_goto i_X7_leaverAt_78 (tgt := 91) rfl ?_
            refine Y_iinc_6 i_X7_leaverAt_91 rfl rfl ?_
            refine X_goto i_X7_leaverAt_94 (tgt := 56) rfl ?_
            exact X_eq (ih2 (g + 1) K (by omega) hK (by simp only [sGl]; rw [hgq, if_pos (by omega)]; exact hl)) (by simp) rfl rfl
      refine Y_iload_3 i_X7_leaverAt_15 ?_
      refine X_bipush i_X7_leaverAt_16 (by decide +kernel) ?_
      refine X_icmp_gt i_X7_leaverAt_18 (tgt := 103) rfl ⟨by omega, by omega⟩ ⟨by omega, by omega⟩ (fun h18 => by exfalso; omega) (fun h18 => ?_)
      refine Y_aload_0 i_X7_leaverAt_21 ?_
      refine X_getR i_X7_leaverAt_22 f_X7_15 rfl ?_
      refine X_iconst i_X7_leaverAt_25 ?_
      refine Y_callV (k' := kX0_setOf) i_X7_leaverAt_26 l_X7_65 m_X0_setOf (c_X0_setOf (i := 1) (by omega) (zs_self _ _ _) hO (zR_lit rfl)) rfl rfl rfl rfl rfl ?_
      rw [sRun_G]
      refine Y_istore_4 i_X7_leaverAt_29 rfl rfl ?_
      refine Y_aload_0 i_X7_leaverAt_31 ?_
      refine X_getR i_X7_leaverAt_32 f_X7_15 rfl ?_
      refine Y_callVv (k' := kX0_passOne) i_X7_leaverAt_35 l_X7_62 m_X0_passOne (c_X0_passOne (i := 1) (by omega) hO (by omega)) rfl rfl rfl rfl rfl ?_
      change zX _ _ _ _ _ (zs M 1 (sRun (M 0) (j + 1))) _
      refine Y_aload_0 i_X7_leaverAt_38 ?_
      refine X_getR i_X7_leaverAt_39 f_X7_15 rfl ?_
      refine X_iconst i_X7_leaverAt_42 ?_
      refine Y_callV (k' := kX0_setOf) i_X7_leaverAt_43 l_X7_65 m_X0_setOf (c_X0_setOf (i := 1) (by omega) (zs_self _ _ _) hO1 (zR_lit rfl)) rfl rfl rfl rfl rfl ?_
      rw [sRun_G]
      refine Y_iload_4 i_X7_leaverAt_46 ?_
      refine X_iconst i_X7_leaverAt_48 ?_
      refine X_ixor i_X7_leaverAt_49 ?_
      refine X_iand i_X7_leaverAt_50 ?_
      refine Y_istore_5 i_X7_leaverAt_51 rfl rfl ?_
      refine X_iconst i_X7_leaverAt_53 ?_
      refine Y_istore_6 i_X7_leaverAt_54 rfl rfl ?_
      exact inner (sG (M 0)) 0 K (by omega) hK2 (by simp [sGl, hK1])
  refine Y_iload_1 i_X7_leaverAt_0 ?_
  refine Y_istore_2 i_X7_leaverAt_1 rfl rfl ?_
  refine Y_aload_0 i_X7_leaverAt_2 ?_
  refine X_getR i_X7_leaverAt_3 f_X7_15 rfl ?_
  refine Y_aload_0 i_X7_leaverAt_6 ?_
  refine X_getR i_X7_leaverAt_7 f_X7_9 rfl ?_
  refine Y_callVv (k' := kX0_copyFrom) i_X7_leaverAt_10 l_X7_18 m_X0_copyFrom (c_X0_copyFrom (i := 1) (j := 0) (by omega) (by omega) rfl) rfl rfl rfl rfl rfl ?_
  refine X_iconst i_X7_leaverAt_13 ?_
  refine Y_istore_3 i_X7_leaverAt_14 rfl rfl ?_
  exact X_eq (loop 99 0 _ _ _ 0 (by omega) rfl (by omega)) (by simp; exact ⟨rfl, rfl, rfl⟩) rfl rfl
