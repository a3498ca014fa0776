def zb1 (v : Int) : Int := v - zand (zushr v 1) 1431655765
def zb2 (v : Int) : Int := zand (zb1 v) 858993459 + zand (zushr (zb1 v) 2) 858993459
def zb3 (v : Int) : Int := zand (zb2 v + zushr (zb2 v) 4) 252645135
def zb4 (v : Int) : Int := zb3 v + zushr (zb3 v) 8
def zb5 (v : Int) : Int := zb4 v + zushr (zb4 v) 16
def zbc (v : Int) : Int := zand (zb5 v) 63
def sBts (v : Int) : Nat → Int
  | 0 => 0
  | n + 1 => sBts v n + sBit v n
theorem zbc_16 : ∀ v : Int, 0 ≤ v → v < 16 → zbc v = sBts v 31 ∧ 0 ≤ sBts v 31 ∧ sBts v 31 ≤ 31 := by
  have h : ∀ v : Fin 16, zbc ((v.val : Nat) : Int) = sBts ((v.val : Nat) : Int) 31 ∧ 0 ≤ sBts ((v.val : Nat) : Int) 31 ∧ sBts ((v.val : Nat) : Int) 31 ≤ 31 := by decide +kernel
  intro v h0 h1
  have h2 := h ⟨v.toNat, by omega⟩
  rw [show v = ((v.toNat : Nat) : Int) by omega]
  exact h2
theorem zor_16 : ∀ v s : Int, 0 ≤ v → v < 16 → 0 ≤ s → s < 4 → 0 ≤ zor v (zshl 1 s) ∧ zor v (zshl 1 s) < 16 := by
  have h : ∀ v : Fin 16, ∀ s : Fin 4, 0 ≤ zor ((v.val : Nat) : Int) (zshl 1 ((s.val : Nat) : Int)) ∧ zor ((v.val : Nat) : Int) (zshl 1 ((s.val : Nat) : Int)) < 16 := by decide +kernel
  intro v s h0 h1 h3 h4
  have h2 := h ⟨v.toNat, by omega⟩ ⟨s.toNat, by omega⟩
  rw [show v = ((v.toNat : Nat) : Int) by omega, show s = ((s.toNat : Nat) : Int) by omega]
  exact h2
theorem zR_31 (s : Int) : 0 ≤ zand s 2147483647 ∧ zand s 2147483647 < 2147483648 := by
  unfold zand
  have e1 : zii 2147483647 = nI 2147483647 := zii_n (n := 2147483647) (by omega)
  have e2 : zii s = nI (zii s).toBitVec.toNat := by
    apply Int32.toBitVec_inj.1
    show (zii s).toBitVec = BitVec.ofNat 32 (zii s).toBitVec.toNat
    rw [BitVec.ofNat_toNat, BitVec.setWidth_eq]
  rw [e1, e2, bx_and, nI_toInt (Nat.lt_of_le_of_lt Nat.and_le_right (by omega))]
  have h9 := Nat.and_le_right (n := (zii s).toBitVec.toNat) (m := 2147483647)
  omega
/-- a thirst drawn -/
def sLt (s : Int) : Int := zrem (zdiv (zand s 2147483647) 65536) 31
theorem sLt_in (s : Int) : 0 ≤ sLt s ∧ sLt s ≤ 30 := by
  have h := zR_31 s
  unfold sLt
  rw [show zand s 2147483647 = ((zand s 2147483647).toNat : Int) by omega]
  have hd : (zand s 2147483647).toNat / 65536 < 2147483648 := by omega
  rw [show zdiv ((zand s 2147483647).toNat : Int) 65536 = (((zand s 2147483647).toNat / 65536 : Nat) : Int) from zdiv_n (a := (zand s 2147483647).toNat) (b := 65536) (by omega) (by omega) (by omega)]
  rw [show zrem (((zand s 2147483647).toNat / 65536 : Nat) : Int) 31 = (((zand s 2147483647).toNat / 65536 % 31 : Nat) : Int) from zrem_n (a := (zand s 2147483647).toNat / 65536) (b := 31) hd (by omega) (by omega)]
  omega
def zTo (T : zAft) : Prop := (0 ≤ T 1 0 ∧ T 1 0 ≤ 12) ∧ ∀ i : Int, 0 ≤ i → i < 12 → 0 ≤ T 0 i ∧ T 0 i ≤ 99
def sTn (T : zAft) : Nat := (T 1 0).toNat
/-- one's states are as told -/
def sSo (B T : zAft) (x : Int) : Nat → Bool
  | 0 => true
  | n + 1 => sSo B T x n && decide (sRun B n 3 x = T 0 n)
theorem sSo_le {B T : zAft} {x : Int} : ∀ {m n : Nat}, n ≤ m → sSo B T x m = true → sSo B T x n = true := by
  intro m
  induction m with
  | zero => intro n h h2; rw [show n = 0 by omega]; rfl
  | succ m ih =>
    intro n h h2
    by_cases e : n = m + 1
    · subst e; exact h2
    · simp only [sSo, Bool.and_eq_true] at h2
      exact ih (by omega) h2.1
def sMo (w : Int) : Nat := if w = 0 then 5 else if w = 1 then 9 else 30
def sFit (A T : zAft) (x w : Int) : Nat → Int
  | 0 => 0
  | v + 1 => if sSo (sRe A x w v) T x (sTn T) = true then zor (sFit A T x w v) (zshl 1 v) else sFit A T x w v

set_option maxRecDepth 100000 in
theorem c_J6_bitCount {M : zMem} {v : Int} : zCt kJ6_bitCount_0f7a4 0 [.int (zii v)] M (zRet (.int (zii (zbc v))) M) := by
  refine zMet (by decide) (Nat.le_of_ble_eq_true rfl) ?_
  show zX kJ6_bitCount_0f7a4 0 0 [some (.int (zii v))] [] _ _
  refine Y_iload_0 i_J6_bitCount_0f7a4_0 ?_
  refine Y_iload_0 i_J6_bitCount_0f7a4_1 ?_
  refine X_iconst i_J6_bitCount_0f7a4_2 ?_
  refine X_iushr i_J6_bitCount_0f7a4_3 ?_
  refine X_ldcw i_J6_bitCount_0f7a4_4 n_J6_265 (x := 1431655765) (by decide +kernel) ?_
  refine X_iand i_J6_bitCount_0f7a4_7 ?_
  refine X_isub i_J6_bitCount_0f7a4_8 ?_
  refine Y_istore_0 i_J6_bitCount_0f7a4_9 rfl ?_
  refine Y_iload_0 i_J6_bitCount_0f7a4_10 ?_
  refine X_ldcw i_J6_bitCount_0f7a4_11 n_J6_266 (x := 858993459) (by decide +kernel) ?_
  refine X_iand i_J6_bitCount_0f7a4_14 ?_
  refine Y_iload_0 i_J6_bitCount_0f7a4_15 ?_
  refine X_iconst i_J6_bitCount_0f7a4_16 ?_
  refine X_iushr i_J6_bitCount_0f7a4_17 ?_
  refine X_ldcw i_J6_bitCount_0f7a4_18 n_J6_266 (x := 858993459) (by decide +kernel) ?_
  refine X_iand i_J6_bitCount_0f7a4_21 ?_
  refine X_iadd i_J6_bitCount_0f7a4_22 ?_
  refine Y_istore_0 i_J6_bitCount_0f7a4_23 rfl ?_
  refine Y_iload_0 i_J6_bitCount_0f7a4_24 ?_
  refine Y_iload_0 i_J6_bitCount_0f7a4_25 ?_
  refine X_iconst i_J6_bitCount_0f7a4_26 ?_
  refine X_iushr i_J6_bitCount_0f7a4_27 ?_
  refine X_iadd i_J6_bitCount_0f7a4_28 ?_
  refine X_ldcw i_J6_bitCount_0f7a4_29 n_J6_267 (x := 252645135) (by decide +kernel) ?_
  refine X_iand i_J6_bitCount_0f7a4_32 ?_
  refine Y_istore_0 i_J6_bitCount_0f7a4_33 rfl ?_
  refine Y_iload_0 i_J6_bitCount_0f7a4_34 ?_
  refine Y_iload_0 i_J6_bitCount_0f7a4_35 ?_
  refine X_bipush i_J6_bitCount_0f7a4_36 (by decide +kernel) ?_
  refine X_iushr i_J6_bitCount_0f7a4_38 ?_
  refine X_iadd i_J6_bitCount_0f7a4_39 ?_
  refine Y_istore_0 i_J6_bitCount_0f7a4_40 rfl ?_
  refine Y_iload_0 i_J6_bitCount_0f7a4_41 ?_
  refine Y_iload_0 i_J6_bitCount_0f7a4_42 ?_
  refine X_bipush i_J6_bitCount_0f7a4_43 (by decide +kernel) ?_
  refine X_iushr i_J6_bitCount_0f7a4_45 ?_
  refine X_iadd i_J6_bitCount_0f7a4_46 ?_
  refine Y_istore_0 i_J6_bitCount_0f7a4_47 rfl ?_
  refine Y_iload_0 i_J6_bitCount_0f7a4_48 ?_
  refine X_bipush i_J6_bitCount_0f7a4_49 (by decide +kernel) ?_
  refine X_iand i_J6_bitCount_0f7a4_51 ?_
  refine X_iret i_J6_bitCount_0f7a4_52 rfl ?_
  exact zri rfl
theorem zR_lit_n {j : Nat} (h : j < 2147483648) : zR (j : Int) := ⟨by omega, by omega⟩
set_option maxRecDepth 100000 in
theorem c_X4_goesAsTold {M : zMem} {B : zAft} (hB : zOk 999 B) (hT : zTo (M 5)) {x : Int} (x0 : 0 ≤ x) (x1 : x < 6) : zCt kX4_goesAsTold 4 [.ref 34, .int (zii x), .ref 23] ((zs M 1 B)) (zRetE (.int (zii (if sSo B (M 5) x (sTn (M 5)) = true then 1 else 0))) M 1) := by
  have hTn : (sTn (M 5) : Int) = M 5 1 0 := by have := hT.1; unfold sTn; omega
  have hT1 := hT.1
  refine zMet (by decide) (Nat.le_of_ble_eq_true rfl) ?_
  show zX kX4_goesAsTold 4 0 [some (.ref 34), some (.int (zii x)), some (.ref 23), none] [] _ _
  have loop : ∀ (n : Nat) (j : Nat), j + n = sTn (M 5) → sSo B (M 5) x j = true → zX kX4_goesAsTold 4 2 [some (.ref 34), some (.int (zii x)), some (.ref 23), some (.int (zii j))] [] (zs M 1 (sRun B j)) (zRetE (.int (zii (if sSo B (M 5) x (sTn (M 5)) = true then 1 else 0))) M 1) := by
    intro n
    induction n with
    | zero =>
      intro j  hg hr
      obtain rfl : j = sTn (M 5) := by omega
      refine Y_iload_3 i_X4_goesAsTold_2 ?_
      refine Y_aload_2 i_X4_goesAsTold_3 ?_
      refine Y_getI i_X4_goesAsTold_4 f_X4_36 rfl (zg1 rfl rfl) ?_
      refine X_icmp_ge i_X4_goesAsTold_7 (tgt := 42) rfl ⟨by omega, by omega⟩ ⟨by omega, by omega⟩ (fun h7 => ?_) (fun h7 => by exfalso; omega)
      refine X_iconst i_X4_goesAsTold_42 ?_
      refine X_zret i_X4_goesAsTold_43 rfl (by omega) ?_
      exact zre (by rw [if_pos hr])
    | succ n ih =>
      intro j  hg hr
      have hO := sRun_ok hB j
      have hgg := hO.2 x (by omega) (by omega)
      unfold zG at hgg
      have htt := hT.2 (j : Int) (by omega) (by omega)
      refine Y_iload_3 i_X4_goesAsTold_2 ?_
      refine Y_aload_2 i_X4_goesAsTold_3 ?_
      refine Y_getI i_X4_goesAsTold_4 f_X4_36 rfl (zg1 rfl rfl) ?_
      refine X_icmp_ge i_X4_goesAsTold_7 (tgt := 42) rfl ⟨by omega, by omega⟩ ⟨by omega, by omega⟩ (fun h7 => by exfalso; omega) (fun h7 => ?_)
      refine Y_aload_0 i_X4_goesAsTold_10 ?_
      refine X_getR i_X4_goesAsTold_11 f_X4_19 rfl ?_
      refine X_getR i_X4_goesAsTold_14 f_X4_42 rfl ?_
      refine Y_iload_1 i_X4_goesAsTold_17 ?_
      refine Y_iald i_X4_goesAsTold_18 rfl ⟨by omega, by omega⟩ rfl (zg0 _ _ _ _ _) ?_
      refine Y_aload_2 i_X4_goesAsTold_19 ?_
      refine Y_iload_3 i_X4_goesAsTold_20 ?_
      refine Y_callV (k' := kX6_at) i_X4_goesAsTold_21 l_X4_45 m_X6_at (c_X6_at_5 (M := zs M 1 (sRun B j)) (L := M 5) rfl hT.1 (zR_lit_n (by omega))) rfl rfl rfl rfl rfl ?_
      rw [if_pos ⟨by omega, by omega⟩]
      refine X_icmp_eq i_X4_goesAsTold_24 (tgt := 29) rfl ⟨by omega, by omega⟩ ⟨by omega, by omega⟩ (fun h24 => ?_) (fun h24 => ?_)
      · refine Y_aload_0 i_X4_goesAsTold_29 ?_
        refine X_getR i_X4_goesAsTold_30 f_X4_19 rfl ?_
        refine Y_callVv (k' := kX0_passOne) i_X4_goesAsTold_33 l_X4_49 m_X0_passOne (c_X0_passOne (i := 1) (by omega) hO (by omega)) rfl rfl rfl rfl rfl ?_
        refine Y_iinc_3 i_X4_goesAsTold_36 rfl rfl ?_
        refine X_goto i_X4_goesAsTold_39 (tgt := 2) rfl ?_
        exact X_eq (ih (j + 1) (by omega) (by simp only [sSo, hr, Bool.true_and, decide_eq_true_eq]; exact h24)) rfl rfl rfl
      · refine X_iconst i_X4_goesAsTold_27 ?_
        refine X_zret i_X4_goesAsTold_28 rfl (by omega) ?_
        exact zre (by rw [if_neg]; intro z; have z2 := sSo_le (n := j + 1) (by omega) z; simp only [sSo, hr, Bool.true_and, decide_eq_true_eq] at z2; exact h24 z2)
  refine X_iconst i_X4_goesAsTold_0 ?_
  refine Y_istore_3 i_X4_goesAsTold_1 rfl rfl ?_
  exact loop (sTn (M 5)) 0 (by omega) rfl
set_option maxRecDepth 100000 in
theorem c_X4_fitting {M : zMem} {A B : zAft} (e : M 0 = A) (hA : zOk 999 A) (hT : zTo (M 5)) {x w : Int} (x0 : 0 ≤ x) (x1 : x < 6) (w0 : 0 ≤ w) (w1 : w ≤ 2) : zCt kX4_fitting 5 [.ref 34, .int (zii x), .int (zii w), .ref 23] ((zs M 1 B)) (zRetE (.int (zii (sFit A (M 5) x w (sMo w + 1)))) M 1) := by
  subst e
  have h6 := hA.1
  unfold zH at h6
  have hmo : (sMo w : Nat) ≤ 30 ∧ (w = 0 → sMo w = 5) ∧ (w = 1 → sMo w = 9) := by
    unfold sMo
    split
    · omega
    · split <;> omega
  refine zMet (by decide) (Nat.le_of_ble_eq_true rfl) ?_
  show zX kX4_fitting 5 0 [some (.ref 34), some (.int (zii x)), some (.int (zii w)), some (.ref 23), none, none, none] [] _ _
  have loop : ∀ (n : Nat) (v : Nat) (C : zAft), v + n = sMo w + 1 → zX kX4_fitting 5 28 [some (.ref 34), some (.int (zii x)), some (.int (zii w)), some (.ref 23), some (.int (zii (sMo w : Nat))), some (.int (zii (sFit (M 0) (M 5) x w v))), some (.int (zii v))] [] (zs M 1 C) (zRetE (.int (zii (sFit (M 0) (M 5) x w (sMo w + 1)))) M 1) := by
    intro n
    induction n with
    | zero =>
      intro v C hg 
      obtain rfl : v = sMo w + 1 := by omega
      refine Y_iload_6 i_X4_fitting_28 ?_
      refine Y_iload_4 i_X4_fitting_30 ?_
      refine X_icmp_gt i_X4_fitting_32 (tgt := 81) rfl ⟨by omega, by omega⟩ ⟨by omega, by omega⟩ (fun h32 => ?_) (fun h32 => by exfalso; omega)
      refine Y_iload_5 i_X4_fitting_81 ?_
      refine X_iret i_X4_fitting_83 rfl ?_
      exact zre rfl
    | succ n ih =>
      intro v C hg 
      have hR := sRe_ok hA (g := x) (w := w) (v := (v : Int)) x0 x1 ⟨by omega, fun z => by have := hmo.2.1 z; omega, fun z => by have := hmo.2.2 z; omega, by omega⟩
      refine Y_iload_6 i_X4_fitting_28 ?_
      refine Y_iload_4 i_X4_fitting_30 ?_
      refine X_icmp_gt i_X4_fitting_32 (tgt := 81) rfl ⟨by omega, by omega⟩ ⟨by omega, by omega⟩ (fun h32 => by exfalso; omega) (fun h32 => ?_)
      refine Y_aload_0 i_X4_fitting_35 ?_
      refine X_getR i_X4_fitting_36 f_X4_19 rfl ?_
      refine Y_aload_0 i_X4_fitting_39 ?_
      refine X_getR i_X4_fitting_40 f_X4_15 rfl ?_
      refine Y_callVv (k' := kX0_copyFrom) i_X4_fitting_43 l_X4_22 m_X0_copyFrom (c_X0_copyFrom (i := 1) (j := 0) (by omega) (by omega) rfl) rfl rfl rfl rfl rfl ?_
      refine Y_aload_0 i_X4_fitting_46 ?_
      refine X_getR i_X4_fitting_47 f_X4_19 rfl ?_
      refine Y_iload_1 i_X4_fitting_50 ?_
      refine Y_iload_2 i_X4_fitting_51 ?_
      refine Y_iload_6 i_X4_fitting_52 ?_
      refine Y_callVv (k' := kX0_remake) i_X4_fitting_54 l_X4_28 m_X0_remake (c_X0_remake (i := 1) (by omega) x0 x1 ⟨by omega, by omega⟩) rfl rfl rfl rfl rfl ?_
      refine Y_aload_0 i_X4_fitting_57 ?_
      refine Y_iload_1 i_X4_fitting_58 ?_
      refine Y_aload_3 i_X4_fitting_59 ?_
      refine Y_callVe (k' := kX4_goesAsTold) i_X4_fitting_60 l_X4_32 m_X4_goesAsTold (c_X4_goesAsTold (M := M) hR hT x0 x1) rfl rfl rfl rfl rfl ?_
      intro C1
      refine Y_ifq_eq i_X4_fitting_63 (tgt := 75) rfl  (fun h63 => ?_) (fun h63 => ?_)
      · refine Y_iinc_6 i_X4_fitting_75 rfl rfl ?_
        refine X_goto i_X4_fitting_78 (tgt := 28) rfl ?_
        exact X_eq (ih (v + 1) _ (by omega)) (by simp [sFit, h63]) rfl rfl
      · refine Y_iload_5 i_X4_fitting_66 ?_
        refine X_iconst i_X4_fitting_68 ?_
        refine Y_iload_6 i_X4_fitting_69 ?_
        refine X_ishl i_X4_fitting_71 ?_
        refine X_ior i_X4_fitting_72 ?_
        refine Y_istore_5 i_X4_fitting_73 rfl rfl ?_
        refine Y_iinc_6 i_X4_fitting_75 rfl rfl ?_
        refine X_goto i_X4_fitting_78 (tgt := 28) rfl ?_
        exact X_eq (ih (v + 1) _ (by omega)) (by simp [sFit, h63]) rfl rfl
  refine Y_iload_2 i_X4_fitting_0 ?_
  refine Y_if_ne i_X4_fitting_1 (tgt := 8) rfl ⟨by omega, by omega⟩ (fun h1 => ?_) (fun h1 => ?_)
  · refine Y_iload_2 i_X4_fitting_8 ?_
    refine X_iconst i_X4_fitting_9 ?_
    refine Y_icmp_ne i_X4_fitting_10 (tgt := 18) rfl ⟨by omega, by omega⟩ ⟨by omega, by omega⟩ (fun h10 => ?_) (fun h10 => ?_)
    · refine X_bipush i_X4_fitting_18 (by decide +kernel) ?_
      refine Y_istore_4 i_X4_fitting_20 rfl rfl ?_
      refine X_iconst i_X4_fitting_22 ?_
      refine Y_istore_5 i_X4_fitting_23 rfl rfl ?_
      refine X_iconst i_X4_fitting_25 ?_
      refine Y_istore_6 i_X4_fitting_26 rfl rfl ?_
      exact X_eq (loop (sMo w + 1) 0 _ (by omega)) (by rw [show sMo w = 30 by unfold sMo; rw [if_neg h1, if_neg h10]]; rfl) rfl rfl
    · refine X_bipush i_X4_fitting_13 (by decide +kernel) ?_
      refine X_goto i_X4_fitting_15 (tgt := 20) rfl ?_
      refine Y_istore_4 i_X4_fitting_20 rfl rfl ?_
      refine X_iconst i_X4_fitting_22 ?_
      refine Y_istore_5 i_X4_fitting_23 rfl rfl ?_
      refine X_iconst i_X4_fitting_25 ?_
      refine Y_istore_6 i_X4_fitting_26 rfl rfl ?_
      exact X_eq (loop (sMo w + 1) 0 _ (by omega)) (by rw [show sMo w = 9 by unfold sMo; rw [if_neg h1, if_pos h10]]; rfl) rfl rfl
  · refine X_iconst i_X4_fitting_4 ?_
    refine X_goto i_X4_fitting_5 (tgt := 20) rfl ?_
    refine Y_istore_4 i_X4_fitting_20 rfl rfl ?_
    refine X_iconst i_X4_fitting_22 ?_
    refine Y_istore_5 i_X4_fitting_23 rfl rfl ?_
    refine X_iconst i_X4_fitting_25 ?_
    refine Y_istore_6 i_X4_fitting_26 rfl rfl ?_
    exact X_eq (loop (sMo w + 1) 0 _ (by omega)) (by rw [show sMo w = 5 by unfold sMo; rw [if_pos h1]]; rfl) rfl rfl
def sPt (A T : zAft) (x : Int) : Nat → Bool := fun j => decide (sRun A j 2 x ≠ T 0 j)
def sWt (A T : zAft) (x : Int) : Int := if sFst (sPt A T x) (sTn T) < sTn T then (sFst (sPt A T x) (sTn T) : Int) else -9
set_option maxRecDepth 100000 in
theorem c_X4_firstWrongThirst {M : zMem} {A B : zAft} (e : M 0 = A) (hA : zOk 999 A) (hT : zTo (M 5)) {x : Int} (x0 : 0 ≤ x) (x1 : x < 6) : zCt kX4_firstWrongThirst 4 [.ref 34, .int (zii x), .ref 23] ((zs M 1 B)) (zRetE (.int (zii (sWt A (M 5) x))) M 1) := by
  subst e
  have h6 := hA.1
  unfold zH at h6
  have hTn : (sTn (M 5) : Int) = M 5 1 0 := by have := hT.1; unfold sTn; omega
  have hT1 := hT.1
  refine zMet (by decide) (Nat.le_of_ble_eq_true rfl) ?_
  show zX kX4_firstWrongThirst 4 0 [some (.ref 34), some (.int (zii x)), some (.ref 23), none] [] _ _
  have loop : ∀ (n : Nat) (j : Nat), j + n = sTn (M 5) → (∀ q, q < j → sPt (M 0) (M 5) x q = false) → zX kX4_firstWrongThirst 4 13 [some (.ref 34), some (.int (zii x)), some (.ref 23), some (.int (zii j))] [] (zs M 1 (sRun (M 0) j)) (zRetE (.int (zii (sWt (M 0) (M 5) x))) M 1) := by
    intro n
    induction n with
    | zero =>
      intro j  hg hno
      obtain rfl : j = sTn (M 5) := by omega
      have e9 := sFst_none (p := sPt (M 0) (M 5) x) (sTn (M 5)) hno
      refine Y_iload_3 i_X4_firstWrongThirst_13 ?_
      refine Y_aload_2 i_X4_firstWrongThirst_14 ?_
      refine Y_getI i_X4_firstWrongThirst_15 f_X4_36 rfl (zg1 rfl rfl) ?_
      refine X_icmp_ge i_X4_firstWrongThirst_18 (tgt := 53) rfl ⟨by omega, by omega⟩ ⟨by omega, by omega⟩ (fun h18 => ?_) (fun h18 => by exfalso; omega)
      refine X_bipush i_X4_firstWrongThirst_53 (by decide +kernel) ?_
      refine X_iret i_X4_firstWrongThirst_55 rfl ?_
      exact zre (by unfold sWt; rw [if_neg (by omega)])
    | succ n ih =>
      intro j  hg hno
      have hO := sRun_ok hA j
      have hgg := hO.2 x (by omega) (by omega)
      unfold zG at hgg
      have htt := hT.2 (j : Int) (by omega) (by omega)
      refine Y_iload_3 i_X4_firstWrongThirst_13 ?_
      refine Y_aload_2 i_X4_firstWrongThirst_14 ?_
      refine Y_getI i_X4_firstWrongThirst_15 f_X4_36 rfl (zg1 rfl rfl) ?_
      refine X_icmp_ge i_X4_firstWrongThirst_18 (tgt := 53) rfl ⟨by omega, by omega⟩ ⟨by omega, by omega⟩ (fun h18 => by exfalso; omega) (fun h18 => ?_)
      refine Y_aload_0 i_X4_firstWrongThirst_21 ?_
      refine X_getR i_X4_firstWrongThirst_22 f_X4_19 rfl ?_
      refine X_getR i_X4_firstWrongThirst_25 f_X4_77 rfl ?_
      refine Y_iload_1 i_X4_firstWrongThirst_28 ?_
      refine Y_iald i_X4_firstWrongThirst_29 rfl ⟨by omega, by omega⟩ rfl (zg0 _ _ _ _ _) ?_
      refine Y_aload_2 i_X4_firstWrongThirst_30 ?_
      refine Y_iload_3 i_X4_firstWrongThirst_31 ?_
      refine Y_callV (k' := kX6_at) i_X4_firstWrongThirst_32 l_X4_45 m_X6_at (c_X6_at_5 (M := zs M 1 (sRun (M 0) j)) (L := M 5) rfl hT.1 (zR_lit_n (by omega))) rfl rfl rfl rfl rfl ?_
      rw [if_pos ⟨by omega, by omega⟩]
      refine X_icmp_eq i_X4_firstWrongThirst_35 (tgt := 40) rfl ⟨by omega, by omega⟩ ⟨by omega, by omega⟩ (fun h35 => ?_) (fun h35 => ?_)
      · refine Y_aload_0 i_X4_firstWrongThirst_40 ?_
        refine X_getR i_X4_firstWrongThirst_41 f_X4_19 rfl ?_
        refine Y_callVv (k' := kX0_passOne) i_X4_firstWrongThirst_44 l_X4_49 m_X0_passOne (c_X0_passOne (i := 1) (by omega) hO (by omega)) rfl rfl rfl rfl rfl ?_
        refine Y_iinc_3 i_X4_firstWrongThirst_47 rfl rfl ?_
        refine X_goto i_X4_firstWrongThirst_50 (tgt := 13) rfl ?_
        exact X_eq (ih (j + 1) (by omega) (fun q hq => by
          by_cases e : q = j
          · subst e; exact decide_eq_false (fun z => z h35)
          · exact hno q (by omega))) rfl rfl rfl
      · refine Y_iload_3 i_X4_firstWrongThirst_38 ?_
        refine X_iret i_X4_firstWrongThirst_39 rfl ?_
        have e9 := sFst_eq (p := sPt (M 0) (M 5) x) hno (decide_eq_true h35) (sTn (M 5)) (by omega)
        exact zre (by unfold sWt; rw [e9, if_pos (by omega)])
  refine Y_aload_0 i_X4_firstWrongThirst_0 ?_
  refine X_getR i_X4_firstWrongThirst_1 f_X4_19 rfl ?_
  refine Y_aload_0 i_X4_firstWrongThirst_4 ?_
  refine X_getR i_X4_firstWrongThirst_5 f_X4_15 rfl ?_
  refine Y_callVv (k' := kX0_copyFrom) i_X4_firstWrongThirst_8 l_X4_22 m_X0_copyFrom (c_X0_copyFrom (i := 1) (j := 0) (by omega) (by omega) rfl) rfl rfl rfl rfl rfl ?_
  refine X_iconst i_X4_firstWrongThirst_11 ?_
  refine Y_istore_3 i_X4_firstWrongThirst_12 rfl rfl ?_
  exact loop (sTn (M 5)) 0 (by omega) (fun q h => absurd h (by omega))
def sAy (A : zAft) (w : Int) : Nat → zAft
  | 0 => A
  | k + 1 => if sBit w k = 1 then sUns (sAy A w k) else sMin (sAy A w k)
def sWy (w : Int) (t : Nat) : Nat → Nat
  | 0 => 1
  | k + 1 => if sBit w k = 1 then sWy w t k else sWy w t k * (t - 1)
theorem sAy_ok {b : Int} {A : zAft} (h : zOk b A) (w : Int) : ∀ n : Nat, zOk (b + n) (sAy A w n) := by
  intro n
  induction n with
  | zero => simpa [sAy] using h
  | succ n ih =>
    rw [show b + ((n + 1 : Nat) : Int) = b + n + 1 by omega]
    simp only [sAy]
    split
    · exact sUns_ok ih
    · exact sMin_ok ih
theorem sWy_le (w : Int) {t : Nat} (h1 : 1 ≤ t) (ht : t ≤ 20) : ∀ n : Nat, sWy w t n ≤ 19 ^ n := by
  intro n
  induction n with
  | zero => simp [sWy]
  | succ n ih =>
    simp only [sWy]
    rw [Nat.pow_succ]
    split
    · omega
    · exact Nat.mul_le_mul ih (by omega)
def sAv (A : zAft) (x : Int) (n t : Nat) : Nat → Nat
  | 0 => 0
  | j + 1 => if A 5 x < sAy A j n 5 x ∨ sAy A j n 3 x = 2 then sAv A x n t j + sWy j t n else sAv A x n t j
theorem sAv_le {A : zAft} {x : Int} {n t : Nat} (hn : n ≤ 8) (h1 : 1 ≤ t) (ht : t ≤ 20) : ∀ j : Nat, sAv A x n t j ≤ j * 16983563041 := by
  intro j
  induction j with
  | zero => simp [sAv]
  | succ j ih =>
    have h2 : sWy (j : Int) t n ≤ 16983563041 := Nat.le_trans (sWy_le (j : Int) h1 ht n) (Nat.le_trans (Nat.pow_le_pow_right (by omega) hn) (by decide))
    simp only [sAv]
    rw [Nat.succ_mul]
    generalize sAv A x n t j = a at ih ⊢
    generalize sWy (j : Int) t n = c at h2 ⊢
    generalize j * 16983563041 = d at ih ⊢
    split <;> omega
set_option maxRecDepth 100000 in
theorem c_X4_passAway {M : zMem} {A B : zAft} (e : M 0 = A) (hA : zOk 999 A) {w : Int} {n t : Nat} (hn : n ≤ 8) (h1 : 2 ≤ t) (ht : t ≤ 20) : zCt kX4_passAway 4 [.ref 34, .int (zii w), .int (zii n), .int (zii t)] ((zs M 1 B)) (zRet (.long (zll (sWy w t n : Nat))) (zs M 1 (sAy A w n))) := by
  subst e
  have h6 := hA.1
  unfold zH at h6
  refine zMet (by decide) (Nat.le_of_ble_eq_true rfl) ?_
  show zX kX4_passAway 4 0 [some (.ref 34), some (.int (zii w)), some (.int (zii n)), some (.int (zii t)), none, none, none] [] _ _
  have loop : ∀ (m : Nat) (k : Nat), k + m = n → zX kX4_passAway 4 17 [some (.ref 34), some (.int (zii w)), some (.int (zii n)), some (.int (zii t)), some (.long (zll (sWy w t k : Nat))), none, some (.int (zii k))] [] (zs M 1 (sAy (M 0) w k)) (zRet (.long (zll (sWy w t n : Nat))) (zs M 1 (sAy (M 0) w n))) := by
    intro m
    induction m with
    | zero =>
      intro k  hg 
      obtain rfl : k = n := by omega
      refine Y_iload_6 i_X4_passAway_17 ?_
      refine Y_iload_2 i_X4_passAway_19 ?_
      refine X_icmp_ge i_X4_passAway_20 (tgt := 65) rfl ⟨by omega, by omega⟩ ⟨by omega, by omega⟩ (fun h20 => ?_) (fun h20 => by exfalso; omega)
      refine Y_lload_4 i_X4_passAway_65 ?_
      refine X_lret i_X4_passAway_67 rfl ?_
      exact ⟨rfl, rfl⟩
    | succ m ih =>
      intro k  hg 
      have hO := sAy_ok hA w k
      have hbb := sBit_in w k
      have hbe : zand (zshr w k) 1 = sBit w k := rfl
      refine Y_iload_6 i_X4_passAway_17 ?_
      refine Y_iload_2 i_X4_passAway_19 ?_
      refine X_icmp_ge i_X4_passAway_20 (tgt := 65) rfl ⟨by omega, by omega⟩ ⟨by omega, by omega⟩ (fun h20 => by exfalso; omega) (fun h20 => ?_)
      refine Y_iload_1 i_X4_passAway_23 ?_
      refine Y_iload_6 i_X4_passAway_24 ?_
      refine X_ishr i_X4_passAway_26 ?_
      refine X_iconst i_X4_passAway_27 ?_
      refine X_iand i_X4_passAway_28 ?_
      refine X_iconst i_X4_passAway_29 ?_
      refine Y_icmp_ne i_X4_passAway_30 (tgt := 43) rfl ⟨by omega, by omega⟩ ⟨by omega, by omega⟩ (fun h30 => ?_) (fun h30 => ?_)
      · refine Y_aload_0 i_X4_passAway_43 ?_
        refine X_getR i_X4_passAway_44 f_X4_19 rfl ?_
        refine Y_callVv (k' := kX0_passOne) i_X4_passAway_47 l_X4_49 m_X0_passOne (c_X0_passOne (i := 1) (by omega) hO (by omega)) rfl rfl rfl rfl rfl ?_
        refine Y_lload_4 i_X4_passAway_50 ?_
        refine Y_iload_3 i_X4_passAway_52 ?_
        refine X_iconst i_X4_passAway_53 ?_
        refine X_isub i_X4_passAway_54 ?_
        refine X_i2l i_X4_passAway_55 ⟨by omega, by omega⟩ ?_
        refine X_lmul i_X4_passAway_56 ?_
        refine Y_lstore_4 i_X4_passAway_57 rfl rfl ?_
        refine Y_iinc_6 i_X4_passAway_59 rfl rfl ?_
        refine X_goto i_X4_passAway_62 (tgt := 17) rfl ?_
        exact X_eq (ih (k + 1) (by omega)) (by simp only [sWy]; rw [if_neg (by omega), Int.natCast_mul, Int.natCast_sub (by omega)]; rfl) rfl (by simp only [sAy]; rw [if_neg (by omega)])
      · refine Y_aload_0 i_X4_passAway_33 ?_
        refine X_getR i_X4_passAway_34 f_X4_19 rfl ?_
        refine Y_callVv (k' := kX0_passUnserved) i_X4_passAway_37 l_X4_74 m_X0_passUnserved (c_X0_passUnserved (i := 1) (by omega) hO) rfl rfl rfl rfl rfl ?_
        refine X_goto i_X4_passAway_40 (tgt := 59) rfl ?_
        refine Y_iinc_6 i_X4_passAway_59 rfl rfl ?_
        refine X_goto i_X4_passAway_62 (tgt := 17) rfl ?_
        exact X_eq (ih (k + 1) (by omega)) (by simp only [sWy]; rw [if_pos (by omega)]; rfl) rfl (by simp only [sAy]; rw [if_pos (by omega)])
  refine X_lconst i_X4_passAway_0 (x := 1) rfl ?_
  refine Y_lstore_4 i_X4_passAway_1 rfl rfl ?_
  refine Y_aload_0 i_X4_passAway_3 ?_
  refine X_getR i_X4_passAway_4 f_X4_19 rfl ?_
  refine Y_aload_0 i_X4_passAway_7 ?_
  refine X_getR i_X4_passAway_8 f_X4_15 rfl ?_
  refine Y_callVv (k' := kX0_copyFrom) i_X4_passAway_11 l_X4_22 m_X0_copyFrom (c_X0_copyFrom (i := 1) (j := 0) (by omega) (by omega) rfl) rfl rfl rfl rfl rfl ?_
  refine X_iconst i_X4_passAway_14 ?_
  refine Y_istore_6 i_X4_passAway_15 rfl rfl ?_
  exact loop n 0 (by omega)
set_option maxRecDepth 100000 in
theorem c_X4_likelyServed {M : zMem} {A B : zAft} (e : M 0 = A) (hA : zOk 999 A) {x w : Int} {n t : Nat} (x0 : 0 ≤ x) (x1 : x < 6) (hn : n ≤ 8) (h1 : 2 ≤ t) (ht : t ≤ 20) (hw : zR w) : zCt kX4_likelyServed 5 [.ref 34, .int (zii x), .int (zii n), .int (zii t), .int (zii w)] ((zs M 1 B)) (zRetE (.long (zll (sPart (sAv A x n t (2 ^ n)) (t ^ n) w))) M 1) := by
  subst e
  have h6 := hA.1
  unfold zH at h6
  have h2n : (2 : Nat) ^ n ≤ 2 ^ 8 := Nat.pow_le_pow_right (by omega) hn
  have htn : t ^ n ≤ 20 ^ 8 := Nat.le_trans (Nat.pow_le_pow_left ht n) (Nat.pow_le_pow_right (by omega) hn)
  have htp : 0 < t ^ n := Nat.pow_pos (by omega)
  have e20 : (20 : Nat) ^ 8 = 25600000000 := by decide
  have e19 : (19 : Nat) ^ 8 = 16983563041 := by decide
  refine zMet (by decide) (Nat.le_of_ble_eq_true rfl) ?_
  show zX kX4_likelyServed 5 0 [some (.ref 34), some (.int (zii x)), some (.int (zii n)), some (.int (zii t)), some (.int (zii w)), none, none, none, none, none, none, none] [] _ _
  have loop2 : ∀ (m : Nat) (j : Nat) (lx ly : Option Value) (C : zAft), j + m = 2 ^ n → zX kX4_likelyServed 5 31 [some (.ref 34), some (.int (zii x)), some (.int (zii n)), some (.int (zii t)), some (.int (zii w)), some (.long (zll (sAv (M 0) x n t j : Nat))), none, some (.long (zll (t ^ n : Nat))), none, some (.int (zii j)), lx, ly] [] (zs M 1 C) (zRetE (.long (zll (sPart (sAv (M 0) x n t (2 ^ n)) (t ^ n) w))) M 1) := by
    intro m
    induction m with
    | zero =>
      intro j lx ly C hg 
      have hj : j = 2 ^ n := by omega
      have hav := sAv_le (A := M 0) (x := x) hn (by omega : 1 ≤ t) ht j
      have hsh := zshl_n n (by omega)
      refine Y_iload_9 i_X4_likelyServed_31 ?_
      refine X_iconst i_X4_likelyServed_33 ?_
      refine Y_iload_2 i_X4_likelyServed_34 ?_
      refine X_ishl i_X4_likelyServed_35 ?_
      rw [hsh]
      refine X_icmp_ge i_X4_likelyServed_36 (tgt := 96) rfl ⟨by omega, by omega⟩ ⟨by omega, by omega⟩ (fun h36 => ?_) (fun h36 => by exfalso; omega)
      refine Y_lload_5 i_X4_likelyServed_96 ?_
      refine Y_lload_7 i_X4_likelyServed_98 ?_
      refine Y_iload_4 i_X4_likelyServed_100 ?_
      refine Y_callS (k' := kX3_part) i_X4_likelyServed_102 l_X4_68 m_X3_part (c_X3_part (by omega) (by omega) (by omega) hw) rfl rfl rfl rfl ?_
      refine X_lret i_X4_likelyServed_105 rfl ?_
      exact zrel (by unfold sPart; rw [hj])
    | succ m ih =>
      intro j lx ly C hg 
      have hsh := zshl_n n (by omega)
      have hav := sAv_le (A := M 0) (x := x) hn (by omega : 1 ≤ t) ht j
      have hwy := sWy_le (j : Int) (by omega : 1 ≤ t) ht n
      have h19 : (19 : Nat) ^ n ≤ 19 ^ 8 := Nat.pow_le_pow_right (by omega) hn
      have hO := sAy_ok hA (j : Int) n
      have hgg := hO.2 x (by omega) (by omega)
      have hg0 := hA.2 x (by omega) (by omega)
      unfold zG at hgg hg0
      refine Y_iload_9 i_X4_likelyServed_31 ?_
      refine X_iconst i_X4_likelyServed_33 ?_
      refine Y_iload_2 i_X4_likelyServed_34 ?_
      refine X_ishl i_X4_likelyServed_35 ?_
      rw [hsh]
      refine X_icmp_ge i_X4_likelyServed_36 (tgt := 96) rfl ⟨by omega, by omega⟩ ⟨by omega, by omega⟩ (fun h36 => by exfalso; omega) (fun h36 => ?_)
      refine Y_aload_0 i_X4_likelyServed_39 ?_
      refine Y_iload_9 i_X4_likelyServed_40 ?_
      refine Y_iload_2 i_X4_likelyServed_42 ?_
      refine Y_iload_3 i_X4_likelyServed_43 ?_
      refine Y_callV (k' := kX4_passAway) i_X4_likelyServed_44 l_X4_61 m_X4_passAway (c_X4_passAway (M := M) (w := (j : Int)) rfl hA hn h1 ht) rfl rfl rfl rfl rfl ?_
      refine Y_lstore_10 i_X4_likelyServed_47 rfl rfl ?_
      refine Y_aload_0 i_X4_likelyServed_49 ?_
      refine X_getR i_X4_likelyServed_50 f_X4_19 rfl ?_
      refine X_getR i_X4_likelyServed_53 f_X4_65 rfl ?_
      refine Y_iload_1 i_X4_likelyServed_56 ?_
      refine Y_iald i_X4_likelyServed_57 rfl ⟨by omega, by omega⟩ rfl (zg0 _ _ _ _ _) ?_
      refine Y_aload_0 i_X4_likelyServed_58 ?_
      refine X_getR i_X4_likelyServed_59 f_X4_15 rfl ?_
      refine X_getR i_X4_likelyServed_62 f_X4_65 rfl ?_
      refine Y_iload_1 i_X4_likelyServed_65 ?_
      refine Y_iald i_X4_likelyServed_66 rfl ⟨by omega, by omega⟩ rfl (zg1 rfl rfl) ?_
      refine X_icmp_gt i_X4_likelyServed_67 (tgt := 83) rfl ⟨by omega, by omega⟩ ⟨by omega, by omega⟩ (fun h67 => ?_) (fun h67 => ?_)
      · refine Y_lload_5 i_X4_likelyServed_83 ?_
        refine Y_lload_10 i_X4_likelyServed_85 ?_
        refine X_ladd i_X4_likelyServed_87 ?_
        refine Y_lstore_5 i_X4_likelyServed_88 rfl rfl ?_
        refine Y_iinc_9 i_X4_likelyServed_90 rfl rfl ?_
        refine X_goto i_X4_likelyServed_93 (tgt := 31) rfl ?_
        exact X_eq (ih (j + 1) _ _ _ (by omega)) (by simp only [sAv]; rw [if_pos (by omega), Int.natCast_add]; rfl) rfl rfl
      · refine Y_aload_0 i_X4_likelyServed_70 ?_
        refine X_getR i_X4_likelyServed_71 f_X4_19 rfl ?_
        refine X_getR i_X4_likelyServed_74 f_X4_42 rfl ?_
        refine Y_iload_1 i_X4_likelyServed_77 ?_
        refine Y_iald i_X4_likelyServed_78 rfl ⟨by omega, by omega⟩ rfl (zg0 _ _ _ _ _) ?_
        refine X_iconst i_X4_likelyServed_79 ?_
        refine Y_icmp_ne i_X4_likelyServed_80 (tgt := 90) rfl ⟨by omega, by omega⟩ ⟨by omega, by omega⟩ (fun h80 => ?_) (fun h80 => ?_)
        · refine Y_iinc_9 i_X4_likelyServed_90 rfl rfl ?_
          refine X_goto i_X4_likelyServed_93 (tgt := 31) rfl ?_
          exact X_eq (ih (j + 1) _ _ _ (by omega)) (by simp only [sAv]; rw [if_neg (by omega)]; rfl) rfl rfl
        · refine Y_lload_5 i_X4_likelyServed_83 ?_
          refine Y_lload_10 i_X4_likelyServed_85 ?_
          refine X_ladd i_X4_likelyServed_87 ?_
          refine Y_lstore_5 i_X4_likelyServed_88 rfl rfl ?_
          refine Y_iinc_9 i_X4_likelyServed_90 rfl rfl ?_
          refine X_goto i_X4_likelyServed_93 (tgt := 31) rfl ?_
          exact X_eq (ih (j + 1) _ _ _ (by omega)) (by simp only [sAv]; rw [if_pos (by omega), Int.natCast_add]; rfl) rfl rfl
  have loop1 : ∀ (m : Nat) (j : Nat) (lx ly : Option Value) (C : zAft), j + m = n → zX kX4_likelyServed 5 9 [some (.ref 34), some (.int (zii x)), some (.int (zii n)), some (.int (zii t)), some (.int (zii w)), some (.long (zll 0)), none, some (.long (zll (t ^ j : Nat))), none, some (.int (zii j)), lx, ly] [] (zs M 1 C) (zRetE (.long (zll (sPart (sAv (M 0) x n t (2 ^ n)) (t ^ n) w))) M 1) := by
    intro m
    induction m with
    | zero =>
      intro j lx ly C hg 
      obtain rfl : j = n := by omega
      refine Y_iload_9 i_X4_likelyServed_9 ?_
      refine Y_iload_2 i_X4_likelyServed_11 ?_
      refine X_icmp_ge i_X4_likelyServed_12 (tgt := 28) rfl ⟨by omega, by omega⟩ ⟨by omega, by omega⟩ (fun h12 => ?_) (fun h12 => by exfalso; omega)
      refine X_iconst i_X4_likelyServed_28 ?_
      refine Y_istore_9 i_X4_likelyServed_29 rfl rfl ?_
      exact X_eq (loop2 (2 ^ j) 0 _ _ C (by omega)) rfl rfl rfl
    | succ m ih =>
      intro j lx ly C hg 
      refine Y_iload_9 i_X4_likelyServed_9 ?_
      refine Y_iload_2 i_X4_likelyServed_11 ?_
      refine X_icmp_ge i_X4_likelyServed_12 (tgt := 28) rfl ⟨by omega, by omega⟩ ⟨by omega, by omega⟩ (fun h12 => by exfalso; omega) (fun h12 => ?_)
      refine Y_lload_7 i_X4_likelyServed_15 ?_
      refine Y_iload_3 i_X4_likelyServed_17 ?_
      refine X_i2l i_X4_likelyServed_18 ⟨by omega, by omega⟩ ?_
      refine X_lmul i_X4_likelyServed_19 ?_
      refine Y_lstore_7 i_X4_likelyServed_20 rfl rfl ?_
      refine Y_iinc_9 i_X4_likelyServed_22 rfl rfl ?_
      refine X_goto i_X4_likelyServed_25 (tgt := 9) rfl ?_
      exact X_eq (ih (j + 1) _ _ _ (by omega)) (by rw [Nat.pow_succ, Int.natCast_mul]; rfl) rfl rfl
  refine X_lconst i_X4_likelyServed_0 (x := 0) rfl ?_
  refine Y_lstore_5 i_X4_likelyServed_1 rfl rfl ?_
  refine X_lconst i_X4_likelyServed_3 (x := 1) rfl ?_
  refine Y_lstore_7 i_X4_likelyServed_4 rfl rfl ?_
  refine X_iconst i_X4_likelyServed_6 ?_
  refine Y_istore_9 i_X4_likelyServed_7 rfl rfl ?_
  exact X_eq (loop1 n 0 _ _ _ (by omega)) (by rfl) rfl rfl
def sSd (z : Int) : Nat → Int
  | 0 => z
  | k + 1 => sSd z k * 1103515245 + 12345
def sDw (A : zAft) (z : Int) (o : Nat) : Nat → zAft
  | 0 => A
  | g + 1 => zwr (sDw A z o g) 2 g (sLt (sSd z (o + g + 1)))
theorem sDw_ok {b : Int} {A : zAft} (h : zOk b A) (z : Int) (o : Nat) : ∀ n : Nat, n ≤ 6 → zOk b (sDw A z o n) := by
  intro n
  induction n with
  | zero => intro _; exact h
  | succ n ih =>
    intro hn
    have h1 := ih (by omega)
    have h2 := sLt_in (sSd z (o + n + 1))
    refine ⟨zH_eq h1.1 (zwr_row rfl), fun i i0 i1 => ?_⟩
    have hg := h1.2 i i0 i1
    by_cases e : i = n
    · subst e
      unfold zG at hg ⊢
      simp only [sDw]
      simp [zwr]; omega
    · exact zG_eq hg (fun r _ => by simp only [sDw]; rw [zwr_i e])
theorem sDw_6 (A : zAft) (z : Int) (o : Nat) : ∀ n : Nat, sDw A z o n 6 = A 6 := by
  intro n
  induction n with
  | zero => rfl
  | succ n ih => simp only [sDw]; rw [zwr_row rfl, ih]
def sDg (A : zAft) (z : Int) (i : Nat) : zAft := sRun (sDw A z (i * sG A) (sG A)) 60
set_option maxRecDepth 100000 in
theorem c_X4_drawn {M : zMem} {A B : zAft} (e : M 0 = A) (hA : zOk 999 A) {n : Nat} (hn : n ≤ 20) {z w : Int} (hw : zR w) : zCt kX4_drawn 5 [.ref 34, .int (zii n), .int (zii z), .int (zii w)] ((zs M 1 B)) (zRetE (.int (zii (if w = 0 then sSum (fun i => sMany (sDg A z i) 3) n else sSum (fun i => sDg A z i 6 4 - A 6 4) n))) M 1) := by
  subst e
  have h6 := hA.1
  unfold zH at h6
  have hw1 := hw.1
  have hw2 := hw.2
  have hG := sG_le hA.1
  refine zMet (by decide) (Nat.le_of_ble_eq_true rfl) ?_
  show zX kX4_drawn 5 0 [some (.ref 34), some (.int (zii n)), some (.int (zii z)), some (.int (zii w)), none, none, none, none, none] [] _ _
  have main : ∀ (r : Nat) (q : Nat) (lx : Option Value) (C : zAft), q + r = n → zX kX4_drawn 5 12 [some (.ref 34), some (.int (zii n)), some (.int (zii z)), some (.int (zii w)), some (.int (zii (sSd z (q * sG (M 0))))), some (.int (zii (sSum (fun i => sMany (sDg (M 0) z i) 3) q))), some (.int (zii (sSum (fun i => sDg (M 0) z i 6 4 - M 0 6 4) q))), some (.int (zii q)), lx] [] (zs M 1 C) (zRetE (.int (zii (if w = 0 then sSum (fun i => sMany (sDg (M 0) z i) 3) n else sSum (fun i => sDg (M 0) z i 6 4 - (M 0) 6 4) n))) M 1) := by
    intro r
    induction r with
    | zero =>
      intro q lx C hg 
      obtain rfl : q = n := by omega
      refine Y_iload_7 i_X4_drawn_12 ?_
      refine Y_iload_1 i_X4_drawn_14 ?_
      refine X_icmp_ge i_X4_drawn_15 (tgt := 130) rfl ⟨by omega, by omega⟩ ⟨by omega, by omega⟩ (fun h15 => ?_) (fun h15 => by exfalso; omega)
      refine Y_iload_3 i_X4_drawn_130 ?_
      refine Y_if_ne i_X4_drawn_131 (tgt := 139) rfl ⟨by omega, by omega⟩ (fun h131 => ?_) (fun h131 => ?_)
      · refine Y_iload_6 i_X4_drawn_139 ?_
        refine X_iret i_X4_drawn_141 rfl ?_
        exact zre (by rw [if_neg h131])
      · refine Y_iload_5 i_X4_drawn_134 ?_
        refine X_goto i_X4_drawn_136 (tgt := 141) rfl ?_
        refine X_iret i_X4_drawn_141 rfl ?_
        exact zre (by rw [if_pos h131])
    | succ r ih =>
      intro q lx C hg 
      have inner : ∀ (m : Nat) (g : Nat), g + m = sG (M 0) → zX kX4_drawn 5 32 [some (.ref 34), some (.int (zii n)), some (.int (zii z)), some (.int (zii w)), some (.int (zii (sSd z (q * sG (M 0) + g)))), some (.int (zii (sSum (fun i => sMany (sDg (M 0) z i) 3) q))), some (.int (zii (sSum (fun i => sDg (M 0) z i 6 4 - M 0 6 4) q))), some (.int (zii q)), some (.int (zii g))] [] (zs M 1 (sDw (M 0) z (q * sG (M 0)) g)) (zRetE (.int (zii (if w = 0 then sSum (fun i => sMany (sDg (M 0) z i) 3) n else sSum (fun i => sDg (M 0) z i 6 4 - (M 0) 6 4) n))) M 1) := by
        intro m
        induction m with
        | zero =>
          intro g  hg 
          obtain rfl : g = sG (M 0) := by omega
          have hD := sDw_ok hA z (q * sG (M 0)) (sG (M 0)) hG.1
          have hO := sRun_ok hD 60
          have h60 : sDw (M 0) z (q * sG (M 0)) (sG (M 0)) 6 0 = M 0 6 0 := by rw [sDw_6]
          refine Y_iload_8 i_X4_drawn_32 ?_
          refine Y_aload_0 i_X4_drawn_34 ?_
          refine X_getR i_X4_drawn_35 f_X4_19 rfl ?_
          refine Y_getI i_X4_drawn_38 f_X4_80 rfl (zg0 _ _ _ _ _) ?_
          refine X_icmp_ge i_X4_drawn_41 (tgt := 82) rfl ⟨by omega, by omega⟩ ⟨by omega, by omega⟩ (fun h41 => ?_) (fun h41 => by exfalso; omega)
          refine Y_aload_0 i_X4_drawn_82 ?_
          refine X_getR i_X4_drawn_83 f_X4_19 rfl ?_
          refine X_bipush i_X4_drawn_86 (by decide +kernel) ?_
          refine Y_callVv (k' := kX0_pass) i_X4_drawn_88 l_X4_86 m_X0_pass (c_X0_pass (i := 1) (t := 60) (by omega) hD (by omega) (by omega)) rfl rfl rfl rfl rfl ?_
          refine Y_iload_5 i_X4_drawn_91 ?_
          refine Y_aload_0 i_X4_drawn_93 ?_
          refine X_getR i_X4_drawn_94 f_X4_19 rfl ?_
          refine X_iconst i_X4_drawn_97 ?_
          refine Y_callV (k' := kX0_howMany) i_X4_drawn_98 l_X4_90 m_X0_howMany (c_X0_howMany (i := 1) (by omega) (zs_self _ _ _) hO (zR_lit rfl)) rfl rfl rfl rfl rfl ?_
          refine X_iadd i_X4_drawn_101 ?_
          refine Y_istore_5 i_X4_drawn_102 rfl rfl ?_
          refine Y_iload_6 i_X4_drawn_104 ?_
          refine Y_aload_0 i_X4_drawn_106 ?_
          refine X_getR i_X4_drawn_107 f_X4_19 rfl ?_
          refine Y_getI i_X4_drawn_110 f_X4_93 rfl (zg0 _ _ _ _ _) ?_
          refine Y_aload_0 i_X4_drawn_113 ?_
          refine X_getR i_X4_drawn_114 f_X4_15 rfl ?_
          refine Y_getI i_X4_drawn_117 f_X4_93 rfl (zg1 rfl rfl) ?_
          refine X_isub i_X4_drawn_120 ?_
          refine X_iadd i_X4_drawn_121 ?_
          refine Y_istore_6 i_X4_drawn_122 rfl rfl ?_
          refine Y_iinc_7 i_X4_drawn_124 rfl rfl ?_
          refine X_goto i_X4_drawn_127 (tgt := 12) rfl ?_
          exact X_eq (ih (q + 1) _ _ (by omega)) (by rw [Nat.succ_mul]; rfl) rfl rfl
        | succ m ih2 =>
          intro g  hg 
          have h60 : sDw (M 0) z (q * sG (M 0)) g 6 0 = M 0 6 0 := by rw [sDw_6]
          have h31 := zR_31 (sSd z (q * sG (M 0) + g) * 1103515245 + 12345)
          refine Y_iload_8 i_X4_drawn_32 ?_
          refine Y_aload_0 i_X4_drawn_34 ?_
          refine X_getR i_X4_drawn_35 f_X4_19 rfl ?_
          refine Y_getI i_X4_drawn_38 f_X4_80 rfl (zg0 _ _ _ _ _) ?_
          refine X_icmp_ge i_X4_drawn_41 (tgt := 82) rfl ⟨by omega, by omega⟩ ⟨by omega, by omega⟩ (fun h41 => by exfalso; omega) (fun h41 => ?_)
          refine Y_iload_4 i_X4_drawn_44 ?_
          refine X_ldc i_X4_drawn_46 n_X4_83 (x := 1103515245) (by decide +kernel) ?_
          refine X_imul i_X4_drawn_48 ?_
          refine X_sipush i_X4_drawn_49 (by decide +kernel) ?_
          refine X_iadd i_X4_drawn_52 ?_
          refine Y_istore_4 i_X4_drawn_53 rfl rfl ?_
          refine Y_aload_0 i_X4_drawn_55 ?_
          refine X_getR i_X4_drawn_56 f_X4_19 rfl ?_
          refine X_getR i_X4_drawn_59 f_X4_77 rfl ?_
          refine Y_iload_8 i_X4_drawn_62 ?_
          refine Y_iload_4 i_X4_drawn_64 ?_
          refine X_ldc i_X4_drawn_66 n_X4_84 (x := 2147483647) (by decide +kernel) ?_
          refine X_iand i_X4_drawn_68 ?_
          refine X_ldc i_X4_drawn_69 n_X4_85 (x := 65536) (by decide +kernel) ?_
          refine X_idiv i_X4_drawn_71 ⟨by omega, by omega⟩ (by omega) ?_
          refine X_bipush i_X4_drawn_72 (by decide +kernel) ?_
          refine X_irem i_X4_drawn_74 ⟨by omega, by omega⟩ (by omega) ?_
          refine Y_iast i_X4_drawn_75 rfl ⟨by omega, by omega⟩ rfl (zp0 _ _ _ _ _ _) ?_
          refine Y_iinc_8 i_X4_drawn_76 rfl rfl ?_
          refine X_goto i_X4_drawn_79 (tgt := 32) rfl ?_
          exact X_eq (ih2 (g + 1) (by omega)) rfl rfl rfl
      refine Y_iload_7 i_X4_drawn_12 ?_
      refine Y_iload_1 i_X4_drawn_14 ?_
      refine X_icmp_ge i_X4_drawn_15 (tgt := 130) rfl ⟨by omega, by omega⟩ ⟨by omega, by omega⟩ (fun h15 => by exfalso; omega) (fun h15 => ?_)
      refine Y_aload_0 i_X4_drawn_18 ?_
      refine X_getR i_X4_drawn_19 f_X4_19 rfl ?_
      refine Y_aload_0 i_X4_drawn_22 ?_
      refine X_getR i_X4_drawn_23 f_X4_15 rfl ?_
      refine Y_callVv (k' := kX0_copyFrom) i_X4_drawn_26 l_X4_22 m_X0_copyFrom (c_X0_copyFrom (i := 1) (j := 0) (by omega) (by omega) rfl) rfl rfl rfl rfl rfl ?_
      refine X_iconst i_X4_drawn_29 ?_
      refine Y_istore_8 i_X4_drawn_30 rfl rfl ?_
      exact inner (sG (M 0)) 0 (by omega)
  refine Y_iload_2 i_X4_drawn_0 ?_
  refine Y_istore_4 i_X4_drawn_1 rfl rfl ?_
  refine X_iconst i_X4_drawn_3 ?_
  refine Y_istore_5 i_X4_drawn_4 rfl rfl ?_
  refine X_iconst i_X4_drawn_6 ?_
  refine Y_istore_6 i_X4_drawn_7 rfl rfl ?_
  refine X_iconst i_X4_drawn_9 ?_
  refine Y_istore_7 i_X4_drawn_10 rfl rfl ?_
  exact X_eq (main n 0 _ _ (by omega)) (by rw [Nat.zero_mul]; rfl) rfl rfl
def zRetE8 (v : Value) (M : zMem) : Option Value → zMem → Prop := fun r M' => r = some v ∧ ∃ S C, M' = zs (zs M 8 S) 1 C
theorem zre8 {a b : Int} {M : zMem} {S C : zAft} (h : a = b) : zRetE8 (.int (zii b)) M (some (.int (zii a))) (zs (zs M 8 S) 1 C) := ⟨by rw [h], S, C, rfl⟩
def sLb (A : zAft) (x : Int) (j : Nat) : Nat → Int
  | 0 => 0
  | k + 1 => zor (sLb A x j k) (zshl 1 (sRun (sRe A x 0 k) j 3 x))
theorem sLb_in {A : zAft} (h : zOk 999 A) {x : Int} (x0 : 0 ≤ x) (x1 : x < 6) (j : Nat) : ∀ k : Nat, k ≤ 6 → 0 ≤ sLb A x j k ∧ sLb A x j k < 16 := by
  intro k
  induction k with
  | zero => intro _; simp [sLb]
  | succ k ih =>
    intro hk
    have h1 := ih (by omega)
    have h2 := (sRun_ok (sRe_ok h (g := x) (w := 0) (v := (k : Int)) x0 x1 ⟨by omega, fun _ => by omega, fun z => absurd z (by omega), by omega⟩) j).2 x x0 x1
    unfold zG at h2
    exact zor_16 _ _ h1.1 h1.2 (by omega) (by omega)
def sFb (A : zAft) (x : Int) (j : Nat) : Int := sBts (sLb A x j 6) 31
def sBb (f : Nat → Int) : Nat → Nat
  | 0 => 0
  | n + 1 => if f (sBb f n) < f (n + 1) then n + 1 else sBb f n
theorem sBb_le (f : Nat → Int) : ∀ n, sBb f n ≤ n := by
  intro n
  induction n with
  | zero => simp [sBb]
  | succ n ih => simp only [sBb]; split <;> omega
set_option maxRecDepth 100000 in
theorem c_X4_noteStates {M : zMem} {A B S : zAft} (e : M 0 = A) (hA : zOk 999 A) {x k : Int} (x0 : 0 ≤ x) (x1 : x < 6) (k0 : 0 ≤ k) (k1 : k ≤ 5) : zCt kX4_noteStates 4 [.ref 34, .int (zii x), .int (zii k)] ((zs (zs M 8 S) 1 B)) (fun r M9 => r = none ∧ ∃ S9 C9, M9 = zs (zs M 8 S9) 1 C9 ∧ ∀ j : Nat, j < 31 → S9 0 j = zor (S 0 j) (zshl 1 (sRun (sRe A x 0 k) j 3 x))) := by
  subst e
  have h6 := hA.1
  unfold zH at h6
  have hR := sRe_ok hA (g := x) (w := 0) (v := k) x0 x1 ⟨k0, fun _ => k1, fun z => absurd z (by omega), by omega⟩
  refine zMet (by decide) (Nat.le_of_ble_eq_true rfl) ?_
  show zX kX4_noteStates 4 0 [some (.ref 34), some (.int (zii x)), some (.int (zii k)), none] [] _ _
  have loop : ∀ (n : Nat) (j : Nat) (S1 : zAft), j + n = 31 → (∀ q : Nat, q < j → S1 0 q = zor (S 0 q) (zshl 1 (sRun (sRe (M 0) x 0 k) q 3 x))) → (∀ q : Nat, j ≤ q → S1 0 q = S 0 q) → zX kX4_noteStates 4 23 [some (.ref 34), some (.int (zii x)), some (.int (zii k)), some (.int (zii j))] [] (zs (zs M 8 S1) 1 (sRun (sRe (M 0) x 0 k) j)) (fun r M9 => r = none ∧ ∃ S9 C9, M9 = zs (zs M 8 S9) 1 C9 ∧ ∀ j : Nat, j < 31 → S9 0 j = zor (S 0 j) (zshl 1 (sRun (sRe (M 0) x 0 k) j 3 x))) := by
    intro n
    induction n with
    | zero =>
      intro j S1 hg hs1 hs2
      obtain rfl : j = 31 := by omega
      refine Y_iload_3 i_X4_noteStates_23 ?_
      refine X_bipush i_X4_noteStates_24 (by decide +kernel) ?_
      refine X_icmp_gt i_X4_noteStates_26 (tgt := 62) rfl ⟨by omega, by omega⟩ ⟨by omega, by omega⟩ (fun h26 => ?_) (fun h26 => by exfalso; omega)
      refine X_vret i_X4_noteStates_62 rfl ?_
      exact ⟨rfl, S1, _, rfl, hs1⟩
    | succ n ih =>
      intro j S1 hg hs1 hs2
      have hO := sRun_ok hR j
      have hgg := hO.2 x (by omega) (by omega)
      unfold zG at hgg
      refine Y_iload_3 i_X4_noteStates_23 ?_
      refine X_bipush i_X4_noteStates_24 (by decide +kernel) ?_
      refine X_icmp_gt i_X4_noteStates_26 (tgt := 62) rfl ⟨by omega, by omega⟩ ⟨by omega, by omega⟩ (fun h26 => by exfalso; omega) (fun h26 => ?_)
      refine Y_aload_0 i_X4_noteStates_29 ?_
      refine X_getR i_X4_noteStates_30 f_X4_9 rfl ?_
      refine Y_iload_3 i_X4_noteStates_33 ?_
      refine X_dup2 i_X4_noteStates_34 rfl rfl ?_
      refine Y_iald i_X4_noteStates_35 rfl ⟨by omega, by omega⟩ rfl (zg1 rfl (zg0 _ _ _ _ _)) ?_
      refine X_iconst i_X4_noteStates_36 ?_
      refine Y_aload_0 i_X4_noteStates_37 ?_
      refine X_getR i_X4_noteStates_38 f_X4_19 rfl ?_
      refine X_getR i_X4_noteStates_41 f_X4_42 rfl ?_
      refine Y_iload_1 i_X4_noteStates_44 ?_
      refine Y_iald i_X4_noteStates_45 rfl ⟨by omega, by omega⟩ rfl (zg0 _ _ _ _ _) ?_
      refine X_ishl i_X4_noteStates_46 ?_
      refine X_ior i_X4_noteStates_47 ?_
      refine Y_iast i_X4_noteStates_48 rfl ⟨by omega, by omega⟩ rfl (zp1 rfl (zp0 _ _ _ _ _ _)) ?_
      refine Y_aload_0 i_X4_noteStates_49 ?_
      refine X_getR i_X4_noteStates_50 f_X4_19 rfl ?_
      refine Y_callVv (k' := kX0_passOne) i_X4_noteStates_53 l_X4_49 m_X0_passOne (c_X0_passOne (i := 1) (by omega) hO (by omega)) rfl rfl rfl rfl rfl ?_
      refine Y_iinc_3 i_X4_noteStates_56 rfl rfl ?_
      refine X_goto i_X4_noteStates_59 (tgt := 23) rfl ?_
      exact X_eq (ih (j + 1) _ (by omega) (fun q hq => by
        by_cases e : q = j
        · subst e; exact zr0.trans (by rw [hs2 q (Nat.le_refl q)])
        · exact zr2 (by omega) (hs1 q (by omega))) (fun q hq => zr2 (by omega) (hs2 q (by omega)))) rfl rfl rfl
  refine Y_aload_0 i_X4_noteStates_0 ?_
  refine X_getR i_X4_noteStates_1 f_X4_19 rfl ?_
  refine Y_aload_0 i_X4_noteStates_4 ?_
  refine X_getR i_X4_noteStates_5 f_X4_15 rfl ?_
  refine Y_callVv (k' := kX0_copyFrom) i_X4_noteStates_8 l_X4_22 m_X0_copyFrom (c_X0_copyFrom (i := 1) (j := 0) (by omega) (by omega) rfl) rfl rfl rfl rfl rfl ?_
  refine Y_aload_0 i_X4_noteStates_11 ?_
  refine X_getR i_X4_noteStates_12 f_X4_19 rfl ?_
  refine Y_iload_1 i_X4_noteStates_15 ?_
  refine X_iconst i_X4_noteStates_16 ?_
  refine Y_iload_2 i_X4_noteStates_17 ?_
  refine Y_callVv (k' := kX0_remake) i_X4_noteStates_18 l_X4_28 m_X0_remake (c_X0_remake (i := 1) (by omega) x0 x1 (zR_lit rfl)) rfl rfl rfl rfl rfl ?_
  refine X_iconst i_X4_noteStates_21 ?_
  refine Y_istore_3 i_X4_noteStates_22 rfl rfl ?_
  exact loop 31 0 S (by omega) (fun q h => absurd h (by omega)) (fun q _ => rfl)
set_option maxRecDepth 100000 in
theorem c_X4_mostUnlike {T : Nat} (hT : T = 30) {M : zMem} {A B S : zAft} (e : M 0 = A) (hA : zOk 999 A) {x w : Int} (x0 : 0 ≤ x) (x1 : x < 6) (hw : zR w) : zCt kX4_mostUnlike 5 [.ref 34, .int (zii x), .int (zii w)] ((zs (zs M 8 S) 1 B)) (zRetE8 (.int (zii (if w = 0 then ((sBb (sFb A x) T : Nat) : Int) else sFb A x (sBb (sFb A x) T)))) M) := by
  subst e
  have h6 := hA.1
  unfold zH at h6
  have hw1 := hw.1
  have hw2 := hw.2
  have hfb : ∀ q, 0 ≤ sFb (M 0) x q ∧ sFb (M 0) x q ≤ 31 := fun q => (zbc_16 _ (sLb_in hA x0 x1 q 6 (by omega)).1 (sLb_in hA x0 x1 q 6 (by omega)).2).2
  refine zMet (by decide) (Nat.le_of_ble_eq_true rfl) ?_
  show zX kX4_mostUnlike 5 0 [some (.ref 34), some (.int (zii x)), some (.int (zii w)), none, none] [] _ _
  have loop2 : ∀ (n : Nat) (m : Nat) (S1 C : zAft), m + n = T → (∀ q : Nat, q < 31 → S1 0 q = sLb (M 0) x q 6) → zX kX4_mostUnlike 5 46 [some (.ref 34), some (.int (zii x)), some (.int (zii w)), some (.int (zii (sBb (sFb (M 0) x) m : Nat))), some (.int (zii ((m : Int) + 1)))] [] (zs (zs M 8 S1) 1 C) (zRetE8 (.int (zii (if w = 0 then ((sBb (sFb (M 0) x) T : Nat) : Int) else sFb (M 0) x (sBb (sFb (M 0) x) T)))) M) := by
    intro n
    induction n with
    | zero =>
      intro m S1 C hg hs
      obtain rfl : T = m := by omega
      have hbl := sBb_le (sFb (M 0) x) T
      have hq3 : zbc (S1 0 ((sBb (sFb (M 0) x) T : Nat) : Int)) = sFb (M 0) x (sBb (sFb (M 0) x) T) := by rw [hs _ (by omega)]; exact (zbc_16 _ (sLb_in hA x0 x1 _ 6 (by omega)).1 (sLb_in hA x0 x1 _ 6 (by omega)).2).1
      refine Y_iload_4 i_X4_mostUnlike_46 ?_
      refine X_bipush i_X4_mostUnlike_48 (by decide +kernel) ?_
      refine X_icmp_gt i_X4_mostUnlike_50 (tgt := 84) rfl ⟨by omega, by omega⟩ ⟨by omega, by omega⟩ (fun h50 => ?_) (fun h50 => by exfalso; omega)
      refine Y_iload_2 i_X4_mostUnlike_84 ?_
      refine Y_if_ne i_X4_mostUnlike_85 (tgt := 92) rfl ⟨by omega, by omega⟩ (fun h85 => ?_) (fun h85 => ?_)
      · refine Y_aload_0 i_X4_mostUnlike_92 ?_
        refine X_getR i_X4_mostUnlike_93 f_X4_9 rfl ?_
        refine Y_iload_3 i_X4_mostUnlike_96 ?_
        refine Y_iald i_X4_mostUnlike_97 rfl ⟨by omega, by omega⟩ rfl (zg1 rfl (zg0 _ _ _ _ _)) ?_
        refine Y_callS (k' := kJ6_bitCount_0f7a4) i_X4_mostUnlike_98 l_X4_56 m_J6_bitCount_0f7a4 c_J6_bitCount rfl rfl rfl rfl ?_
        rw [hq3]
        refine X_iret i_X4_mostUnlike_101 rfl ?_
        exact zre8 (by rw [if_neg h85])
      · refine Y_iload_3 i_X4_mostUnlike_88 ?_
        refine X_goto i_X4_mostUnlike_89 (tgt := 101) rfl ?_
        refine X_iret i_X4_mostUnlike_101 rfl ?_
        exact zre8 (by rw [if_pos h85])
    | succ n ih =>
      intro m S1 C hg hs
      have hbl := sBb_le (sFb (M 0) x) m
      have hq1 : zbc (S1 0 ((m : Int) + 1)) = sFb (M 0) x (m + 1) := by rw [show ((m : Int) + 1) = ((m + 1 : Nat) : Int) by omega, hs _ (by omega)]; exact (zbc_16 _ (sLb_in hA x0 x1 _ 6 (by omega)).1 (sLb_in hA x0 x1 _ 6 (by omega)).2).1
      have hq2 : zbc (S1 0 ((sBb (sFb (M 0) x) m : Nat) : Int)) = sFb (M 0) x (sBb (sFb (M 0) x) m) := by rw [hs _ (by omega)]; exact (zbc_16 _ (sLb_in hA x0 x1 _ 6 (by omega)).1 (sLb_in hA x0 x1 _ 6 (by omega)).2).1
      have hr1 := hfb (m + 1)
      have hr2 := hfb (sBb (sFb (M 0) x) m)
      refine Y_iload_4 i_X4_mostUnlike_46 ?_
      refine X_bipush i_X4_mostUnlike_48 (by decide +kernel) ?_
      refine X_icmp_gt i_X4_mostUnlike_50 (tgt := 84) rfl ⟨by omega, by omega⟩ ⟨by omega, by omega⟩ (fun h50 => by exfalso; omega) (fun h50 => ?_)
      refine Y_aload_0 i_X4_mostUnlike_53 ?_
      refine X_getR i_X4_mostUnlike_54 f_X4_9 rfl ?_
      refine Y_iload_4 i_X4_mostUnlike_57 ?_
      refine Y_iald i_X4_mostUnlike_59 rfl ⟨by omega, by omega⟩ rfl (zg1 rfl (zg0 _ _ _ _ _)) ?_
      refine Y_callS (k' := kJ6_bitCount_0f7a4) i_X4_mostUnlike_60 l_X4_56 m_J6_bitCount_0f7a4 c_J6_bitCount rfl rfl rfl rfl ?_
      refine Y_aload_0 i_X4_mostUnlike_63 ?_
      refine X_getR i_X4_mostUnlike_64 f_X4_9 rfl ?_
      refine Y_iload_3 i_X4_mostUnlike_67 ?_
      refine Y_iald i_X4_mostUnlike_68 rfl ⟨by omega, by omega⟩ rfl (zg1 rfl (zg0 _ _ _ _ _)) ?_
      refine Y_callS (k' := kJ6_bitCount_0f7a4) i_X4_mostUnlike_69 l_X4_56 m_J6_bitCount_0f7a4 c_J6_bitCount rfl rfl rfl rfl ?_
      rw [hq1, hq2]
      refine X_icmp_le i_X4_mostUnlike_72 (tgt := 78) rfl ⟨by omega, by omega⟩ ⟨by omega, by omega⟩ (fun h72 => ?_) (fun h72 => ?_)
      · refine Y_iinc_4 i_X4_mostUnlike_78 rfl rfl ?_
        refine X_goto i_X4_mostUnlike_81 (tgt := 46) rfl ?_
        exact X_eq (ih (m + 1) _ _ (by omega) hs) (by simp only [sBb]; rw [if_neg (by omega)]; rfl) rfl rfl
      · refine Y_iload_4 i_X4_mostUnlike_75 ?_
        refine Y_istore_3 i_X4_mostUnlike_77 rfl rfl ?_
        refine Y_iinc_4 i_X4_mostUnlike_78 rfl rfl ?_
        refine X_goto i_X4_mostUnlike_81 (tgt := 46) rfl ?_
        exact X_eq (ih (m + 1) _ _ (by omega) hs) (by simp only [sBb]; rw [if_pos (by omega)]; rfl) rfl rfl
  have loop1 : ∀ (n : Nat) (k : Nat) (S1 C : zAft) (lx : Option Value), k + n = 6 → (∀ q : Nat, q < 31 → S1 0 q = sLb (M 0) x q k) → zX kX4_mostUnlike 5 23 [some (.ref 34), some (.int (zii x)), some (.int (zii w)), some (.int (zii (k : Nat))), lx] [] (zs (zs M 8 S1) 1 C) (zRetE8 (.int (zii (if w = 0 then ((sBb (sFb (M 0) x) T : Nat) : Int) else sFb (M 0) x (sBb (sFb (M 0) x) T)))) M) := by
    intro n
    induction n with
    | zero =>
      intro k S1 C lx hg hs
      obtain rfl : k = 6 := by omega
      refine Y_iload_3 i_X4_mostUnlike_23 ?_
      refine X_bipush i_X4_mostUnlike_24 (by decide +kernel) ?_
      refine X_icmp_ge i_X4_mostUnlike_26 (tgt := 41) rfl ⟨by omega, by omega⟩ ⟨by omega, by omega⟩ (fun h26 => ?_) (fun h26 => by exfalso; omega)
      refine X_iconst i_X4_mostUnlike_41 ?_
      refine Y_istore_3 i_X4_mostUnlike_42 rfl rfl ?_
      refine X_iconst i_X4_mostUnlike_43 ?_
      refine Y_istore_4 i_X4_mostUnlike_44 rfl rfl ?_
      exact X_eq (loop2 T 0 S1 C (by omega) hs) rfl rfl rfl
    | succ n ih =>
      intro k S1 C lx hg hs
      refine Y_iload_3 i_X4_mostUnlike_23 ?_
      refine X_bipush i_X4_mostUnlike_24 (by decide +kernel) ?_
      refine X_icmp_ge i_X4_mostUnlike_26 (tgt := 41) rfl ⟨by omega, by omega⟩ ⟨by omega, by omega⟩ (fun h26 => by exfalso; omega) (fun h26 => ?_)
      refine Y_aload_0 i_X4_mostUnlike_29 ?_
      refine Y_iload_1 i_X4_mostUnlike_30 ?_
      refine Y_iload_3 i_X4_mostUnlike_31 ?_
      refine Y_callVq (k' := kX4_noteStates) i_X4_mostUnlike_32 l_X4_52 m_X4_noteStates (c_X4_noteStates (M := M) (S := S1) (k := (k : Int)) rfl hA x0 x1 (by omega) (by omega)) rfl rfl rfl rfl rfl ?_
      intro r9 M9 hr9
      obtain ⟨rfl, S9, C9, rfl, hs9⟩ := hr9
      change zX _ _ _ _ [] _ _
      refine Y_iinc_3 i_X4_mostUnlike_35 rfl rfl ?_
      refine X_goto i_X4_mostUnlike_38 (tgt := 23) rfl ?_
      exact X_eq (ih (k + 1) _ _ _ (by omega) (fun q hq => by rw [hs9 q hq, hs q hq]; rfl)) rfl rfl rfl
  have loop0 : ∀ (n : Nat) (j : Nat) (S1 C : zAft) (lx : Option Value), j + n = 31 → (∀ q : Nat, q < j → S1 0 q = 0) → zX kX4_mostUnlike 5 2 [some (.ref 34), some (.int (zii x)), some (.int (zii w)), some (.int (zii (j : Nat))), lx] [] (zs (zs M 8 S1) 1 C) (zRetE8 (.int (zii (if w = 0 then ((sBb (sFb (M 0) x) T : Nat) : Int) else sFb (M 0) x (sBb (sFb (M 0) x) T)))) M) := by
    intro n
    induction n with
    | zero =>
      intro j S1 C lx hg hs
      obtain rfl : j = 31 := by omega
      refine Y_iload_3 i_X4_mostUnlike_2 ?_
      refine X_bipush i_X4_mostUnlike_3 (by decide +kernel) ?_
      refine X_icmp_gt i_X4_mostUnlike_5 (tgt := 21) rfl ⟨by omega, by omega⟩ ⟨by omega, by omega⟩ (fun h5 => ?_) (fun h5 => by exfalso; omega)
      refine X_iconst i_X4_mostUnlike_21 ?_
      refine Y_istore_3 i_X4_mostUnlike_22 rfl rfl ?_
      exact loop1 6 0 S1 C _ (by omega) hs
    | succ n ih =>
      intro j S1 C lx hg hs
      refine Y_iload_3 i_X4_mostUnlike_2 ?_
      refine X_bipush i_X4_mostUnlike_3 (by decide +kernel) ?_
      refine X_icmp_gt i_X4_mostUnlike_5 (tgt := 21) rfl ⟨by omega, by omega⟩ ⟨by omega, by omega⟩ (fun h5 => by exfalso; omega) (fun h5 => ?_)
      refine Y_aload_0 i_X4_mostUnlike_8 ?_
      refine X_getR i_X4_mostUnlike_9 f_X4_9 rfl ?_
      refine Y_iload_3 i_X4_mostUnlike_12 ?_
      refine X_iconst i_X4_mostUnlike_13 ?_
      refine Y_iast i_X4_mostUnlike_14 rfl ⟨by omega, by omega⟩ rfl (zp1 rfl (zp0 _ _ _ _ _ _)) ?_
      refine Y_iinc_3 i_X4_mostUnlike_15 rfl rfl ?_
      refine X_goto i_X4_mostUnlike_18 (tgt := 2) rfl ?_
      exact X_eq (ih (j + 1) _ _ _ (by omega) (fun q hq => by
        by_cases e : q = j
        · subst e; exact zr0
        · exact zr2 (by omega) (hs q (by omega)))) rfl rfl rfl
  refine X_iconst i_X4_mostUnlike_0 ?_
  refine Y_istore_3 i_X4_mostUnlike_1 rfl rfl ?_
  exact loop0 31 0 S B _ (by omega) (fun q h => absurd h (by omega))
