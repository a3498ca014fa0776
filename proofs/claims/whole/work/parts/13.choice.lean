def sS (lim : Int) (f : Nat → Int) : Nat → Int
  | 0 => lim
  | n + 1 => if f n < sS lim f n then f n else sS lim f n
def sW (lim : Int) (f : Nat → Int) (b : Int) : Nat → Int
  | 0 => b
  | n + 1 => if f n < sS lim f n then n else sW lim f b n
theorem sS_in {lim : Int} {f : Nat → Int} (h : ∀ n, 0 ≤ f n) (hl : 0 ≤ lim) : ∀ n, 0 ≤ sS lim f n ∧ sS lim f n ≤ lim := by
  intro n
  induction n with
  | zero => simp [sS, hl]
  | succ n ih =>
    have := h n
    simp only [sS]; split <;> omega
def sTg (A : zAft) (o : Int) : Nat := sFst (fun q => decide (sAll (sRun A q) o (sG A) = true)) 100
theorem sTg_le (A : zAft) (o : Int) : sTg A o ≤ 100 := sFst_le _ 100
theorem sWh_le (A : zAft) (o : Int) : sWh A o ≤ 100 := sFst_le _ 100
def sN (x : Int) : Int := if 100 ≤ x then -9 else x
theorem zOk_6 {b : Int} {A : zAft} (h : zOk b A) {i v : Int} (hi : (i = 1 ∧ 1 ≤ v ∧ v ≤ 5) ∨ (i = 2 ∧ 0 ≤ v ∧ v ≤ 3)) : zOk b (zwr A 6 i v) := by
  refine ⟨?_, fun g g0 g1 => zG_eq (h.2 g g0 g1) (fun r hr => zwr_r (by omega))⟩
  have := h.1
  unfold zH at this ⊢
  rcases hi with ⟨rfl, h1⟩ | ⟨rfl, h1⟩ <;> simp [zwr] <;> omega
theorem zOk_g {b : Int} {A : zAft} (h : zOk b A) {r : Nat} {g v : Int} (hr : r < 6) (hg : zG (zwr A r g v) g) : zOk b (zwr A r g v) := by
  refine ⟨zH_eq h.1 (zwr_row (by simp; omega)), fun i i0 i1 => ?_⟩
  by_cases e : i = g
  · subst e; exact hg
  · exact zG_eq (h.2 i i0 i1) (fun r9 _ => zwr_i e)
theorem sRe_ok {b : Int} {A : zAft} (h : zOk b A) {g w v : Int} (g0 : 0 ≤ g) (g1 : g < 6) (hv : 0 ≤ v ∧ ((w = 0 → v ≤ 5) ∧ (w = 1 → v ≤ 9) ∧ v ≤ 30)) : zOk b (sRe A g w v) := by
  have hg := h.2 g g0 g1
  unfold sRe
  split
  next hw => exact zOk_g h (by omega) (by unfold zG at hg ⊢; simp [zwr]; omega)
  next hw =>
    split
    next hw2 => exact zOk_g h (by omega) (by unfold zG at hg ⊢; simp [zwr]; omega)
    next hw2 => exact zOk_g h (by omega) (by unfold zG at hg ⊢; simp [zwr]; omega)
theorem sCome_ok {b : Int} {A : zAft} (h : zOk b A) (hr : A 6 0 < 6) {x y z : Int} (hx : 0 ≤ x ∧ x ≤ 5) (hy : 0 ≤ y ∧ y ≤ 9) (hz : 0 ≤ z ∧ z ≤ 30) : zOk b (sCome A x y z) := by
  have h6 := h.1
  refine ⟨?_, fun i i0 i1 => ?_⟩
  · unfold zH at h6 ⊢
    simp [sCome, zwr]; omega
  · have hg := h.2 i i0 i1
    by_cases e : i = A 6 0
    · subst e; unfold zG; simp [sCome, zwr]; omega
    · refine zG_eq hg (fun r hr9 => ?_)
      simp [sCome, zwr, e]; omega
set_option maxRecDepth 100000 in
theorem c_X9_noneIfNever {M : zMem} {x : Int} (hx : zR x) : zCt kX9_noneIfNever 0 [.int (zii x)] M (zRet (.int (zii (sN x))) M) := by
  have hx1 := hx.1
  have hx2 := hx.2
  refine zMet (by decide) (Nat.le_of_ble_eq_true rfl) ?_
  show zX kX9_noneIfNever 0 0 [some (.int (zii x))] [] _ _
  refine Y_iload_0 i_X9_noneIfNever_0 ?_
  refine X_bipush i_X9_noneIfNever_1 (by decide +kernel) ?_
  refine X_icmp_lt i_X9_noneIfNever_3 (tgt := 11) rfl ⟨by omega, by omega⟩ ⟨by omega, by omega⟩ (fun h3 => ?_) (fun h3 => ?_)
  · refine Y_iload_0 i_X9_noneIfNever_11 ?_
    refine X_iret i_X9_noneIfNever_12 rfl ?_
    exact zri (by unfold sN; rw [if_neg (by omega)])
  · refine X_bipush i_X9_noneIfNever_6 (by decide +kernel) ?_
    refine X_goto i_X9_noneIfNever_8 (tgt := 12) rfl ?_
    refine X_iret i_X9_noneIfNever_12 rfl ?_
    exact zri (by unfold sN; rw [if_pos (by omega)])
set_option maxRecDepth 100000 in
theorem c_X2_whenOthersGone {M : zMem} {A B : zAft} (e : M 0 = A) (hA : zOk 999 A) {x : Int} (x0 : 0 ≤ x) (x1 : x < 6) : zCt kX2_whenOthersGone 5 [.ref 32, .int (zii x)] ((zs M 1 B)) (zRetE (.int (zii (sTg A x : Nat))) M 1) := by
  subst e
  have h6 := hA.1
  unfold zH at h6
  refine zMet (by decide) (Nat.le_of_ble_eq_true rfl) ?_
  show zX kX2_whenOthersGone 5 0 [some (.ref 32), some (.int (zii x))] [] _ _
  refine Y_aload_0 i_X2_whenOthersGone_0 ?_
  refine X_getR i_X2_whenOthersGone_1 f_X2_19 rfl ?_
  refine Y_aload_0 i_X2_whenOthersGone_4 ?_
  refine X_getR i_X2_whenOthersGone_5 f_X2_15 rfl ?_
  refine Y_callVv (k' := kX0_copyFrom) i_X2_whenOthersGone_8 l_X2_34 m_X0_copyFrom (c_X0_copyFrom (i := 1) (j := 0) (by omega) (by omega) rfl) rfl rfl rfl rfl rfl ?_
  refine Y_aload_0 i_X2_whenOthersGone_11 ?_
  refine X_getR i_X2_whenOthersGone_12 f_X2_19 rfl ?_
  refine Y_iload_1 i_X2_whenOthersGone_15 ?_
  refine Y_callV (k' := kX0_passTillAllGoneBut) i_X2_whenOthersGone_16 l_X2_42 m_X0_passTillAllGoneBut (c_X0_passTillAllGoneBut (i := 1) (by omega) hA (by omega) ⟨by omega, by omega⟩) rfl rfl rfl rfl rfl ?_
  refine X_iret i_X2_whenOthersGone_19 rfl ?_
  exact zre rfl
set_option maxRecDepth 100000 in
theorem c_X2_gainWithout {M : zMem} {A B : zAft} (e : M 0 = A) (hA : zOk 999 A) {x : Int} (x0 : 0 ≤ x) (x1 : x < 6) : zCt kX2_gainWithout 6 [.ref 32, .int (zii x)] ((zs M 1 B)) (zRetE (.int (zii ((sTg A x : Nat) - (sTg (zwr A 3 x 3) x : Nat)))) M 1) := by
  subst e
  have h6 := hA.1
  unfold zH at h6
  have hgg := hA.2 x x0 x1
  have hB : zOk 999 (zwr (M 0) 3 x 3) := zOk_g hA (by omega) (by unfold zG at hgg ⊢; simp [zwr]; omega)
  refine zMet (by decide) (Nat.le_of_ble_eq_true rfl) ?_
  show zX kX2_gainWithout 6 0 [some (.ref 32), some (.int (zii x)), none] [] _ _
  refine Y_aload_0 i_X2_gainWithout_0 ?_
  refine Y_iload_1 i_X2_gainWithout_1 ?_
  refine Y_callVe (k' := kX2_whenOthersGone) i_X2_gainWithout_2 l_X2_97 m_X2_whenOthersGone (c_X2_whenOthersGone rfl hA x0 x1) rfl rfl rfl rfl rfl ?_
  intro C1
  refine Y_istore_2 i_X2_gainWithout_5 rfl rfl ?_
  refine Y_aload_0 i_X2_gainWithout_6 ?_
  refine X_getR i_X2_gainWithout_7 f_X2_19 rfl ?_
  refine Y_aload_0 i_X2_gainWithout_10 ?_
  refine X_getR i_X2_gainWithout_11 f_X2_15 rfl ?_
  refine Y_callVv (k' := kX0_copyFrom) i_X2_gainWithout_14 l_X2_34 m_X0_copyFrom (c_X0_copyFrom (i := 1) (j := 0) (by omega) (by omega) rfl) rfl rfl rfl rfl rfl ?_
  refine Y_aload_0 i_X2_gainWithout_17 ?_
  refine X_getR i_X2_gainWithout_18 f_X2_19 rfl ?_
  refine X_getR i_X2_gainWithout_21 f_X2_67 rfl ?_
  refine Y_iload_1 i_X2_gainWithout_24 ?_
  refine X_iconst i_X2_gainWithout_25 ?_
  refine Y_iast i_X2_gainWithout_26 rfl ⟨by omega, by omega⟩ rfl (zp0 _ _ _ _ _ _) ?_
  refine Y_iload_2 i_X2_gainWithout_27 ?_
  refine Y_aload_0 i_X2_gainWithout_28 ?_
  refine X_getR i_X2_gainWithout_29 f_X2_19 rfl ?_
  refine Y_iload_1 i_X2_gainWithout_32 ?_
  refine Y_callV (k' := kX0_passTillAllGoneBut) i_X2_gainWithout_33 l_X2_42 m_X0_passTillAllGoneBut (c_X0_passTillAllGoneBut (i := 1) (by omega) hB (by omega) ⟨by omega, by omega⟩) rfl rfl rfl rfl rfl ?_
  refine X_isub i_X2_gainWithout_36 ?_
  refine X_iret i_X2_gainWithout_37 rfl ?_
  exact zre rfl
set_option maxRecDepth 100000 in
theorem c_X2_gainWithCray {M : zMem} {A B : zAft} (e : M 0 = A) (hA : zOk 999 A) {x : Int} (x0 : 0 ≤ x) (x1 : x < 6) (hs : A 3 x = 0 ∨ A 3 x = 1) : zCt kX2_gainWithCray 6 [.ref 32, .int (zii x)] ((zs M 1 B)) (zRetE (.int (zii ((sTg A x : Nat) - (sTg (zwr (zwr A 0 x 5) 3 x 0) x : Nat)))) M 1) := by
  subst e
  have h6 := hA.1
  unfold zH at h6
  have hgg := hA.2 x x0 x1
  have hB0 : zOk 999 (zwr (M 0) 0 x 5) := zOk_g hA (by omega) (by unfold zG at hgg ⊢; simp [zwr]; omega)
  have hB : zOk 999 (zwr (zwr (M 0) 0 x 5) 3 x 0) := zOk_g hB0 (by omega) (by unfold zG at hgg ⊢; simp [zwr]; omega)
  refine zMet (by decide) (Nat.le_of_ble_eq_true rfl) ?_
  show zX kX2_gainWithCray 6 0 [some (.ref 32), some (.int (zii x)), none] [] _ _
  refine Y_aload_0 i_X2_gainWithCray_0 ?_
  refine Y_iload_1 i_X2_gainWithCray_1 ?_
  refine Y_callVe (k' := kX2_whenOthersGone) i_X2_gainWithCray_2 l_X2_97 m_X2_whenOthersGone (c_X2_whenOthersGone rfl hA x0 x1) rfl rfl rfl rfl rfl ?_
  intro C1
  refine Y_istore_2 i_X2_gainWithCray_5 rfl rfl ?_
  refine Y_aload_0 i_X2_gainWithCray_6 ?_
  refine X_getR i_X2_gainWithCray_7 f_X2_19 rfl ?_
  refine Y_aload_0 i_X2_gainWithCray_10 ?_
  refine X_getR i_X2_gainWithCray_11 f_X2_15 rfl ?_
  refine Y_callVv (k' := kX0_copyFrom) i_X2_gainWithCray_14 l_X2_34 m_X0_copyFrom (c_X0_copyFrom (i := 1) (j := 0) (by omega) (by omega) rfl) rfl rfl rfl rfl rfl ?_
  refine Y_aload_0 i_X2_gainWithCray_17 ?_
  refine X_getR i_X2_gainWithCray_18 f_X2_19 rfl ?_
  refine X_getR i_X2_gainWithCray_21 f_X2_100 rfl ?_
  refine Y_iload_1 i_X2_gainWithCray_24 ?_
  refine X_iconst i_X2_gainWithCray_25 ?_
  refine Y_iast i_X2_gainWithCray_26 rfl ⟨by omega, by omega⟩ rfl (zp0 _ _ _ _ _ _) ?_
  refine Y_aload_0 i_X2_gainWithCray_27 ?_
  refine X_getR i_X2_gainWithCray_28 f_X2_19 rfl ?_
  refine X_getR i_X2_gainWithCray_31 f_X2_67 rfl ?_
  refine Y_iload_1 i_X2_gainWithCray_34 ?_
  refine X_iconst i_X2_gainWithCray_35 ?_
  refine Y_iast i_X2_gainWithCray_36 rfl ⟨by omega, by omega⟩ rfl (zp0 _ _ _ _ _ _) ?_
  refine Y_iload_2 i_X2_gainWithCray_37 ?_
  refine Y_aload_0 i_X2_gainWithCray_38 ?_
  refine X_getR i_X2_gainWithCray_39 f_X2_19 rfl ?_
  refine Y_iload_1 i_X2_gainWithCray_42 ?_
  refine Y_callV (k' := kX0_passTillAllGoneBut) i_X2_gainWithCray_43 l_X2_42 m_X0_passTillAllGoneBut (c_X0_passTillAllGoneBut (i := 1) (by omega) hB (by omega) ⟨by omega, by omega⟩) rfl rfl rfl rfl rfl ?_
  refine X_isub i_X2_gainWithCray_46 ?_
  refine X_iret i_X2_gainWithCray_47 rfl ?_
  exact zre rfl
def sFq (A : zAft) (v : Int) : Nat → Bool := fun q => decide (sMany A 2 ≤ (q : Int) + 1 ∧ (sTg (zwr A 6 1 ((q : Int) + 1)) (-1) : Int) ≤ v)
def sFc (A : zAft) (v : Int) : Int := if sFst (sFq A v) 5 = 5 then -9 else (sFst (sFq A v) 5 : Int) + 1
set_option maxRecDepth 100000 in
theorem c_X2_fewestCups {M : zMem} {A B : zAft} (e : M 0 = A) (hA : zOk 999 A) {v : Int} (hv : zR v) : zCt kX2_fewestCups 5 [.ref 32, .int (zii v)] ((zs M 1 B)) (zRetE (.int (zii (sFc A v))) M 1) := by
  subst e
  have h6 := hA.1
  unfold zH at h6
  have hv1 := hv.1
  have hv2 := hv.2
  have hG := sG_le hA.1
  have hmi := sMany_in hA.1 2
  refine zMet (by decide) (Nat.le_of_ble_eq_true rfl) ?_
  show zX kX2_fewestCups 5 0 [some (.ref 32), some (.int (zii v)), none] [] _ _
  have loop : ∀ (n : Nat) (j : Nat) (C : zAft), j + n = 5 → (∀ q, q < j → sFq (M 0) v q = false) → sMany (M 0) 2 ≤ (j : Int) + 1 → zX kX2_fewestCups 5 13 [some (.ref 32), some (.int (zii v)), some (.int (zii ((j : Int) + 1)))] [] (zs M 1 C) (zRetE (.int (zii (sFc (M 0) v))) M 1) := by
    intro n
    induction n with
    | zero =>
      intro j C hg hno hm
      have e9 := sFst_none 5 (show ∀ q, q < 5 → sFq (M 0) v q = false from fun q hq => hno q (by omega))
      refine Y_iload_2 i_X2_fewestCups_13 ?_
      refine X_iconst i_X2_fewestCups_14 ?_
      refine X_icmp_gt i_X2_fewestCups_15 (tgt := 57) rfl ⟨by omega, by omega⟩ ⟨by omega, by omega⟩ (fun h15 => ?_) (fun h15 => by exfalso; omega)
      refine X_bipush i_X2_fewestCups_57 (by decide +kernel) ?_
      refine X_iret i_X2_fewestCups_59 rfl ?_
      exact zre (by unfold sFc; rw [if_pos e9])
    | succ n ih =>
      intro j C hg hno hm
      have hB : zOk 999 (zwr (M 0) 6 1 ((j : Int) + 1)) := zOk_6 hA (Or.inl ⟨rfl, by omega, by omega⟩)
      have hle := sTg_le (zwr (M 0) 6 1 ((j : Int) + 1)) (-1)
      refine Y_iload_2 i_X2_fewestCups_13 ?_
      refine X_iconst i_X2_fewestCups_14 ?_
      refine X_icmp_gt i_X2_fewestCups_15 (tgt := 57) rfl ⟨by omega, by omega⟩ ⟨by omega, by omega⟩ (fun h15 => by exfalso; omega) (fun h15 => ?_)
      refine Y_aload_0 i_X2_fewestCups_18 ?_
      refine X_getR i_X2_fewestCups_19 f_X2_19 rfl ?_
      refine Y_aload_0 i_X2_fewestCups_22 ?_
      refine X_getR i_X2_fewestCups_23 f_X2_15 rfl ?_
      refine Y_callVv (k' := kX0_copyFrom) i_X2_fewestCups_26 l_X2_34 m_X0_copyFrom (c_X0_copyFrom (i := 1) (j := 0) (by omega) (by omega) rfl) rfl rfl rfl rfl rfl ?_
      refine Y_aload_0 i_X2_fewestCups_29 ?_
      refine X_getR i_X2_fewestCups_30 f_X2_19 rfl ?_
      refine Y_iload_2 i_X2_fewestCups_33 ?_
      refine Y_putI i_X2_fewestCups_34 f_X2_38 rfl t_0_7 (zp0 _ _ _ _ _ _) ?_
      refine Y_aload_0 i_X2_fewestCups_37 ?_
      refine X_getR i_X2_fewestCups_38 f_X2_19 rfl ?_
      refine X_iconst i_X2_fewestCups_41 ?_
      refine Y_callV (k' := kX0_passTillAllGoneBut) i_X2_fewestCups_42 l_X2_42 m_X0_passTillAllGoneBut (c_X0_passTillAllGoneBut (i := 1) (by omega) hB (by omega) (zR_lit rfl)) rfl rfl rfl rfl rfl ?_
      change zX _ _ _ _ (.int (zii (sTg (zwr (M 0) 6 1 ((j : Int) + 1)) (-1) : Nat)) :: _) _ _
      refine Y_iload_1 i_X2_fewestCups_45 ?_
      refine X_icmp_gt i_X2_fewestCups_46 (tgt := 51) rfl ⟨by omega, by omega⟩ ⟨by omega, by omega⟩ (fun h46 => ?_) (fun h46 => ?_)
      · refine Y_iinc_2 i_X2_fewestCups_51 rfl rfl ?_
        refine X_goto i_X2_fewestCups_54 (tgt := 13) rfl ?_
        exact X_eq (ih (j + 1) _ (by omega) (fun q hq => by
          by_cases e : q = j
          · subst e; exact decide_eq_false (fun z => by omega)
          · exact hno q (by omega)) (by omega)) (by simp) rfl rfl
      · refine Y_iload_2 i_X2_fewestCups_49 ?_
        refine X_iret i_X2_fewestCups_50 rfl ?_
        have e9 := sFst_eq hno (decide_eq_true ⟨hm, by omega⟩) 5 (by omega)
        exact zre (by unfold sFc; rw [if_neg (by omega), e9])
  refine Y_aload_0 i_X2_fewestCups_0 ?_
  refine X_getR i_X2_fewestCups_1 f_X2_15 rfl ?_
  refine X_iconst i_X2_fewestCups_4 ?_
  refine Y_callV (k' := kX0_howMany) i_X2_fewestCups_5 l_X2_22 m_X0_howMany (c_X0_howMany (i := 0) (by omega) (zs_ne (by decide)) hA (zR_lit rfl)) rfl rfl rfl rfl rfl ?_
  refine X_iconst i_X2_fewestCups_8 ?_
  refine X_mmax i_X2_fewestCups_9 lm_X2_28 m_J9_max_7cf53 ⟨by omega, by omega⟩ ⟨by omega, by omega⟩ rfl rfl ?_
  have hmx : (if (1 : Int) ≤ sMany (M 0) 2 then sMany (M 0) 2 else 1) = ((((if (1 : Int) ≤ sMany (M 0) 2 then sMany (M 0) 2 else 1) - 1).toNat : Nat) : Int) + 1 := by split <;> omega
  have hmy : (((if (1 : Int) ≤ sMany (M 0) 2 then sMany (M 0) 2 else 1) - 1).toNat : Int) ≤ 5 ∧ sMany (M 0) 2 ≤ ((((if (1 : Int) ≤ sMany (M 0) 2 then sMany (M 0) 2 else 1) - 1).toNat : Nat) : Int) + 1 ∧ ∀ q : Nat, q < ((if (1 : Int) ≤ sMany (M 0) 2 then sMany (M 0) 2 else 1) - 1).toNat → (q : Int) + 1 < sMany (M 0) 2 := by split <;> (refine ⟨by omega, by omega, fun q hq => by omega⟩)
  rw [hmx]
  generalize ((if (1 : Int) ≤ sMany (M 0) 2 then sMany (M 0) 2 else 1) - 1).toNat = J at hmy ⊢
  refine Y_istore_2 i_X2_fewestCups_12 rfl rfl ?_
  exact loop (5 - J) J _ (by omega) (fun q hq => decide_eq_false (fun z => by have := hmy.2.2 q hq; omega)) hmy.2.1
-- rules
set_option maxRecDepth 100000 in
theorem c_X2_soonestRule {M : zMem} {A B : zAft} (e : M 0 = A) (hA : zOk 999 A) : zCt kX2_soonestRule 5 [.ref 32] ((zs M 1 B)) (zRetE (.int (zii (sW 100 (fun r => (sTg (zwr A 6 2 (r : Int)) (-1) : Int)) 0 4))) M 1) := by
  subst e
  have h6 := hA.1
  unfold zH at h6
  refine zMet (by decide) (Nat.le_of_ble_eq_true rfl) ?_
  show zX kX2_soonestRule 5 0 [some (.ref 32), none, none, none, none] [] _ _
  have loop : ∀ (n : Nat) (j : Nat) (lx : Option Value) (C : zAft), j + n = 4 → zX kX2_soonestRule 5 7 [some (.ref 32), some (.int (zii (sW 100 ((fun r => (sTg (zwr (M 0) 6 2 (r : Int)) (-1) : Int))) 0 j))), some (.int (zii (sS 100 ((fun r => (sTg (zwr (M 0) 6 2 (r : Int)) (-1) : Int))) j))), some (.int (zii j)), lx] [] (zs M 1 C) (zRetE (.int (zii (sW 100 (fun r => (sTg (zwr (M 0) 6 2 (r : Int)) (-1) : Int)) 0 4))) M 1) := by
    intro n
    induction n with
    | zero =>
      intro j lx C hg 
      obtain rfl : j = 4 := by omega
      have hlim0 := sS_in (lim := 100) (f := (fun r => (sTg (zwr (M 0) 6 2 (r : Int)) (-1) : Int))) (fun q => by first | exact Int.natCast_nonneg _ | (dsimp only; split <;> omega)) (by omega) 4
      refine Y_iload_3 i_X2_soonestRule_7 ?_
      refine X_iconst i_X2_soonestRule_8 ?_
      refine X_icmp_ge i_X2_soonestRule_9 (tgt := 58) rfl ⟨by omega, by omega⟩ ⟨by omega, by omega⟩ (fun h9 => ?_) (fun h9 => by exfalso; omega)
      refine Y_iload_1 i_X2_soonestRule_58 ?_
      refine X_iret i_X2_soonestRule_59 rfl ?_
      exact zre rfl
    | succ n ih =>
      intro j lx C hg 
      have hlim := sS_in (lim := 100) (f := (fun r => (sTg (zwr (M 0) 6 2 (r : Int)) (-1) : Int))) (fun q => by first | exact Int.natCast_nonneg _ | (dsimp only; split <;> omega)) (by omega) j
      have hB : zOk 999 (zwr (M 0) 6 2 (j : Int)) := zOk_6 hA (Or.inr ⟨rfl, by omega, by omega⟩)
      have hle := sTg_le (zwr (M 0) 6 2 (j : Int)) (-1)
      refine Y_iload_3 i_X2_soonestRule_7 ?_
      refine X_iconst i_X2_soonestRule_8 ?_
      refine X_icmp_ge i_X2_soonestRule_9 (tgt := 58) rfl ⟨by omega, by omega⟩ ⟨by omega, by omega⟩ (fun h9 => by exfalso; omega) (fun h9 => ?_)
      refine Y_aload_0 i_X2_soonestRule_12 ?_
      refine X_getR i_X2_soonestRule_13 f_X2_19 rfl ?_
      refine Y_aload_0 i_X2_soonestRule_16 ?_
      refine X_getR i_X2_soonestRule_17 f_X2_15 rfl ?_
      refine Y_callVv (k' := kX0_copyFrom) i_X2_soonestRule_20 l_X2_34 m_X0_copyFrom (c_X0_copyFrom (i := 1) (j := 0) (by omega) (by omega) rfl) rfl rfl rfl rfl rfl ?_
      refine Y_aload_0 i_X2_soonestRule_23 ?_
      refine X_getR i_X2_soonestRule_24 f_X2_19 rfl ?_
      refine Y_iload_3 i_X2_soonestRule_27 ?_
      refine Y_putI i_X2_soonestRule_28 f_X2_45 rfl t_0_8 (zp0 _ _ _ _ _ _) ?_
      refine Y_aload_0 i_X2_soonestRule_31 ?_
      refine X_getR i_X2_soonestRule_32 f_X2_19 rfl ?_
      refine X_iconst i_X2_soonestRule_35 ?_
      refine Y_callV (k' := kX0_passTillAllGoneBut) i_X2_soonestRule_36 l_X2_42 m_X0_passTillAllGoneBut (c_X0_passTillAllGoneBut (i := 1) (by omega) hB (by omega) (zR_lit rfl)) rfl rfl rfl rfl rfl ?_
      change zX _ _ _ _ (.int (zii (sTg (zwr (M 0) 6 2 (j : Int)) (-1) : Nat)) :: _) _ _
      refine Y_istore_4 i_X2_soonestRule_39 rfl rfl ?_
      refine Y_iload_4 i_X2_soonestRule_41 ?_
      refine Y_iload_2 i_X2_soonestRule_43 ?_
      refine X_icmp_ge i_X2_soonestRule_44 (tgt := 52) rfl ⟨by omega, by omega⟩ ⟨by omega, by omega⟩ (fun h44 => ?_) (fun h44 => ?_)
      · refine Y_iinc_3 i_X2_soonestRule_52 rfl rfl ?_
        refine X_goto i_X2_soonestRule_55 (tgt := 7) rfl ?_
        exact X_eq (ih (j + 1) _ _ (by omega)) (by simp [sS, sW, Int.not_lt.mpr h44]; rfl) rfl rfl
      · refine Y_iload_4 i_X2_soonestRule_47 ?_
        refine Y_istore_2 i_X2_soonestRule_49 rfl rfl ?_
        refine Y_iload_3 i_X2_soonestRule_50 ?_
        refine Y_istore_1 i_X2_soonestRule_51 rfl rfl ?_
        refine Y_iinc_3 i_X2_soonestRule_52 rfl rfl ?_
        refine X_goto i_X2_soonestRule_55 (tgt := 7) rfl ?_
        exact X_eq (ih (j + 1) _ _ (by omega)) (by simp [sS, sW, Int.not_le.mp h44]; rfl) rfl rfl
  refine X_iconst i_X2_soonestRule_0 ?_
  refine Y_istore_1 i_X2_soonestRule_1 rfl rfl ?_
  refine X_bipush i_X2_soonestRule_2 (by decide +kernel) ?_
  refine Y_istore_2 i_X2_soonestRule_4 rfl rfl ?_
  refine X_iconst i_X2_soonestRule_5 ?_
  refine Y_istore_3 i_X2_soonestRule_6 rfl rfl ?_
  exact loop 4 0 _ _ (by omega)
def sLz (f : Nat → Int) : Nat → Int
  | 0 => 0
  | n + 1 => if sLm f n < f n then n else sLz f n
theorem sLm_in2 {f : Nat → Int} {c : Int} (hc : 0 ≤ c) (h : ∀ g, 0 ≤ f g ∧ f g ≤ c) : ∀ n, -9 ≤ sLm f n ∧ sLm f n ≤ c := by
  intro n
  induction n with
  | zero => simp [sLm]; omega
  | succ n ih =>
    have := h n
    simp only [sLm]; split <;> omega
def sMp (A : zAft) : Nat → Int := fun r => if r < 4 then sRun (zwr A 6 2 (r : Int)) 99 6 4 else 0
theorem sMp_in {A : zAft} (h : zOk 999 A) (r : Nat) : 0 ≤ sMp A r ∧ sMp A r ≤ 6588 := by
  unfold sMp
  split
  next hr =>
    have hB : zOk 999 (zwr A 6 2 (r : Int)) := zOk_6 h (Or.inr ⟨rfl, by omega, by omega⟩)
    have := (sRun_ok hB 99).1
    unfold zH at this
    omega
  next => omega
set_option maxRecDepth 100000 in
theorem c_X2_mostPouredRule {M : zMem} {A B : zAft} (e : M 0 = A) (hA : zOk 999 A) : zCt kX2_mostPouredRule 5 [.ref 32] ((zs M 1 B)) (zRetE (.int (zii (sLz (sMp A) 4))) M 1) := by
  subst e
  have h6 := hA.1
  unfold zH at h6
  refine zMet (by decide) (Nat.le_of_ble_eq_true rfl) ?_
  show zX kX2_mostPouredRule 5 0 [some (.ref 32), none, none, none] [] _ _
  have loop : ∀ (n : Nat) (j : Nat) (C : zAft), j + n = 4 → zX kX2_mostPouredRule 5 7 [some (.ref 32), some (.int (zii (sLz (sMp (M 0)) j))), some (.int (zii (sLm (sMp (M 0)) j))), some (.int (zii j))] [] (zs M 1 C) (zRetE (.int (zii (sLz (sMp (M 0)) 4))) M 1) := by
    intro n
    induction n with
    | zero =>
      intro j C hg 
      obtain rfl : j = 4 := by omega
      refine Y_iload_3 i_X2_mostPouredRule_7 ?_
      refine X_iconst i_X2_mostPouredRule_8 ?_
      refine X_icmp_ge i_X2_mostPouredRule_9 (tgt := 67) rfl ⟨by omega, by omega⟩ ⟨by omega, by omega⟩ (fun h9 => ?_) (fun h9 => by exfalso; omega)
      refine Y_iload_1 i_X2_mostPouredRule_67 ?_
      refine X_iret i_X2_mostPouredRule_68 rfl ?_
      exact zre rfl
    | succ n ih =>
      intro j C hg 
      have hB : zOk 999 (zwr (M 0) 6 2 (j : Int)) := zOk_6 hA (Or.inr ⟨rfl, by omega, by omega⟩)
      have h1 := sMp_in hA j
      have h2 := sLm_in2 (c := 6588) (by omega) (sMp_in hA) j
      have h3 : sRun (zwr (M 0) 6 2 (j : Int)) 99 6 4 = sMp (M 0) j := by unfold sMp; rw [if_pos (by omega)]
      refine Y_iload_3 i_X2_mostPouredRule_7 ?_
      refine X_iconst i_X2_mostPouredRule_8 ?_
      refine X_icmp_ge i_X2_mostPouredRule_9 (tgt := 67) rfl ⟨by omega, by omega⟩ ⟨by omega, by omega⟩ (fun h9 => by exfalso; omega) (fun h9 => ?_)
      refine Y_aload_0 i_X2_mostPouredRule_12 ?_
      refine X_getR i_X2_mostPouredRule_13 f_X2_19 rfl ?_
      refine Y_aload_0 i_X2_mostPouredRule_16 ?_
      refine X_getR i_X2_mostPouredRule_17 f_X2_15 rfl ?_
      refine Y_callVv (k' := kX0_copyFrom) i_X2_mostPouredRule_20 l_X2_34 m_X0_copyFrom (c_X0_copyFrom (i := 1) (j := 0) (by omega) (by omega) rfl) rfl rfl rfl rfl rfl ?_
      refine Y_aload_0 i_X2_mostPouredRule_23 ?_
      refine X_getR i_X2_mostPouredRule_24 f_X2_19 rfl ?_
      refine Y_iload_3 i_X2_mostPouredRule_27 ?_
      refine Y_putI i_X2_mostPouredRule_28 f_X2_45 rfl t_0_8 (zp0 _ _ _ _ _ _) ?_
      refine Y_aload_0 i_X2_mostPouredRule_31 ?_
      refine X_getR i_X2_mostPouredRule_32 f_X2_19 rfl ?_
      refine X_bipush i_X2_mostPouredRule_35 (by decide +kernel) ?_
      refine Y_callVv (k' := kX0_pass) i_X2_mostPouredRule_37 l_X2_48 m_X0_pass (c_X0_pass (i := 1) (t := 99) (by omega) hB (by omega) (by omega)) rfl rfl rfl rfl rfl ?_
      refine Y_aload_0 i_X2_mostPouredRule_40 ?_
      refine X_getR i_X2_mostPouredRule_41 f_X2_19 rfl ?_
      refine Y_getI i_X2_mostPouredRule_44 f_X2_52 rfl (zg0 _ _ _ _ _) ?_
      rw [h3]
      refine Y_iload_2 i_X2_mostPouredRule_47 ?_
      refine X_icmp_le i_X2_mostPouredRule_48 (tgt := 61) rfl ⟨by omega, by omega⟩ ⟨by omega, by omega⟩ (fun h48 => ?_) (fun h48 => ?_)
      · refine Y_iinc_3 i_X2_mostPouredRule_61 rfl rfl ?_
        refine X_goto i_X2_mostPouredRule_64 (tgt := 7) rfl ?_
        exact X_eq (ih (j + 1) _ (by omega)) (by simp [sLz, sLm, Int.not_lt.mpr h48]) rfl rfl
      · refine Y_aload_0 i_X2_mostPouredRule_51 ?_
        refine X_getR i_X2_mostPouredRule_52 f_X2_19 rfl ?_
        refine Y_getI i_X2_mostPouredRule_55 f_X2_52 rfl (zg0 _ _ _ _ _) ?_
        rw [h3]
        refine Y_istore_2 i_X2_mostPouredRule_58 rfl rfl ?_
        refine Y_iload_3 i_X2_mostPouredRule_59 ?_
        refine Y_istore_1 i_X2_mostPouredRule_60 rfl rfl ?_
        refine Y_iinc_3 i_X2_mostPouredRule_61 rfl rfl ?_
        refine X_goto i_X2_mostPouredRule_64 (tgt := 7) rfl ?_
        exact X_eq (ih (j + 1) _ (by omega)) (by simp [sLz, sLm, Int.not_le.mp h48]) rfl rfl
  refine X_iconst i_X2_mostPouredRule_0 ?_
  refine Y_istore_1 i_X2_mostPouredRule_1 rfl rfl ?_
  refine X_bipush i_X2_mostPouredRule_2 (by decide +kernel) ?_
  refine Y_istore_2 i_X2_mostPouredRule_4 rfl rfl ?_
  refine X_iconst i_X2_mostPouredRule_5 ?_
  refine Y_istore_3 i_X2_mostPouredRule_6 rfl rfl ?_
  exact loop 4 0 _ (by omega)
