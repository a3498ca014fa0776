def sS (lim : Int) (f : Nat → Int) : Nat → Int
  | 0 => lim
  | n + 1 => if f n < sS lim f n then f n else sS lim f n
def sW (lim : Int) (f : Nat → Int) (b : Int) : Nat → Int
  | 0 => b
  | n + 1 => if f n < sS lim f n then n else sW lim f b n
theorem sS_in {lim : Int} {f : Nat → Int} (h : ∀ n, 0 ≤ f n) (hl : 0 ≤ lim) : ∀ n, 0 ≤ sS lim f n ∧ sS lim f n ≤ lim := by
  intro n
  induction n with
  | zero => simp [sS, hl]
  | succ n ih =>
    have := h n
    simp only [sS]; split <;> omega
def sTg (A : zAft) (o : Int) : Nat := sFst (fun q => decide (sAll (sRun A q) o (sG A) = true)) 100
theorem sTg_le (A : zAft) (o : Int) : sTg A o ≤ 100 := sFst_le _ 100
theorem sWh_le (A : zAft) (o : Int) : sWh A o ≤ 100 := sFst_le _ 100
def sN (x : Int) : Int := if 100 ≤ x then -9 else x
theorem zOk_6 {b : Int} {A : zAft} (h : zOk b A) {i v : Int} (hi : (i = 1 ∧ 1 ≤ v ∧ v ≤ 5) ∨ (i = 2 ∧ 0 ≤ v ∧ v ≤ 3)) : zOk b (zwr A 6 i v) := by
  refine ⟨?_, fun g g0 g1 => zG_eq (h.2 g g0 g1) (fun r hr => zwr_r (by omega))⟩
  have := h.1
  unfold zH at this ⊢
  rcases hi with ⟨rfl, h1⟩ | ⟨rfl, h1⟩ <;> simp [zwr] <;> omega
theorem zOk_g {b : Int} {A : zAft} (h : zOk b A) {r : Nat} {g v : Int} (hr : r < 6) (hg : zG (zwr A r g v) g) : zOk b (zwr A r g v) := by
  refine ⟨zH_eq h.1 (zwr_row (by simp; omega)), fun i i0 i1 => ?_⟩
  by_cases e : i = g
  · subst e; exact hg
  · exact zG_eq (h.2 i i0 i1) (fun r9 _ => zwr_i e)
theorem sRe_ok {b : Int} {A : zAft} (h : zOk b A) {g w v : Int} (g0 : 0 ≤ g) (g1 : g < 6) (hv : 0 ≤ v ∧ ((w = 0 → v ≤ 5) ∧ (w = 1 → v ≤ 9) ∧ v ≤ 30)) : zOk b (sRe A g w v) := by
  have hg := h.2 g g0 g1
  unfold sRe
  split
  next hw => exact zOk_g h (by omega) (by unfold zG at hg ⊢; simp [zwr]; omega)
  next hw =>
    split
    next hw2 => exact zOk_g h (by omega) (by unfold zG at hg ⊢; simp [zwr]; omega)
    next hw2 => exact zOk_g h (by omega) (by unfold zG at hg ⊢; simp [zwr]; omega)
theorem sCome_ok {b : Int} {A : zAft} (h : zOk b A) (hr : A 6 0 < 6) {x y z : Int} (hx : 0 ≤ x ∧ x ≤ 5) (hy : 0 ≤ y ∧ y ≤ 9) (hz : 0 ≤ z ∧ z ≤ 30) : zOk b (sCome A x y z) := by
  have h6 := h.1
  refine ⟨?_, fun i i0 i1 => ?_⟩
  · unfold zH at h6 ⊢
    simp [sCome, zwr]; omega
  · have hg := h.2 i i0 i1
    by_cases e : i = A 6 0
    · subst e; unfold zG; simp [sCome, zwr]; omega
    · refine zG_eq hg (fun r hr9 => ?_)
      simp [sCome, zwr, e]; omega
set_option maxRecDepth 100000 in
theorem c_X9_noneIfNever {M : zMem} {x : Int} (hx : zR x) : zCt kX9_noneIfNever 0 [.int (zii x)] M (zRet (.int (zii (sN x))) M) := by
  have hx1 := hx.1
  have hx2 := hx.2
  refine zMet (by decide) (Nat.le_of_ble_eq_true rfl) ?_
  show zX kX9_noneIfNever 0 0 [some (.int (zii x))] [] _ _
  refine Y_iload_0 i_X9_noneIfNever_0 ?_
  refine X_bipush i_X9_noneIfNever_1 (by decide +kernel) ?_
  refine X_icmp_lt i_X9_noneIfNever_3 (tgt := 11) rfl ⟨by omega, by omega⟩ ⟨by omega, by omega⟩ (fun h3 => ?_) (fun h3 => ?_)
  · refine Y_iload_0 i_X9_noneIfNever_11 ?_
    refine X_iret i_X9_noneIfNever_12 rfl ?_
    exact zri (by unfold sN; rw [if_neg (by omega)])
  · refine X_bipush i_X9_noneIfNever_6 (by decide +kernel) ?_
    refine X_goto i_X9_noneIfNever_8 (tgt := 12) rfl ?_
    refine X_iret i_X9_noneIfNever_12 rfl ?_
    exact zri (by unfold sN; rw [if_pos (by omega)])
set_option maxRecDepth 100000 in
theorem c_X2_whenOthersGone {M : zMem} {A B : zAft} (e : M 0 = A) (hA : zOk 999 A) {x : Int} (x0 : 0 ≤ x) (x1 : x < 6) : zCt kX2_whenOthersGone 5 [.ref 32, .int (zii x)] ((zs M 1 B)) (zRetE (.int (zii (sTg A x : Nat))) M 1) := by
  subst e
  have h6 := hA.1
  unfold zH at h6
  refine zMet (by decide) (Nat.le_of_ble_eq_true rfl) ?_
  show zX kX2_whenOthersGone 5 0 [some (.ref 32), some (.int (zii x))] [] _ _
  refine Y_aload_0 i_X2_whenOthersGone_0 ?_
  refine X_getR i_X2_whenOthersGone_1 f_X2_19 rfl ?_
  refine Y_aload_0 i_X2_whenOthersGone_4 ?_
  refine X_getR i_X2_whenOthersGone_5 f_X2_15 rfl ?_
  refine Y_callVv (k' := kX0_copyFrom) i_X2_whenOthersGone_8 l_X2_34 m_X0_copyFrom (c_X0_copyFrom (i := 1) (j := 0) (by omega) (by omega) rfl) rfl rfl rfl rfl rfl ?_
  refine Y_aload_0 i_X2_whenOthersGone_11 ?_
  refine X_getR i_X2_whenOthersGone_12 f_X2_19 rfl ?_
  refine Y_iload_1 i_X2_whenOthersGone_15 ?_
  refine Y_callV (k' := kX0_passTillAllGoneBut) i_X2_whenOthersGone_16 l_X2_42 m_X0_passTillAllGoneBut (c_X0_passTillAllGoneBut (i := 1) (by omega) hA (by omega) ⟨by omega, by omega⟩) rfl rfl rfl rfl rfl ?_
  refine X_iret i_X2_whenOthersGone_19 rfl ?_
  exact zre rfl
set_option maxRecDepth 100000 in
theorem c_X2_gainWithout {M : zMem} {A B : zAft} (e : M 0 = A) (hA : zOk 999 A) {x : Int} (x0 : 0 ≤ x) (x1 : x < 6) : zCt kX2_gainWithout 6 [.ref 32, .int (zii x)] ((zs M 1 B)) (zRetE (.int (zii ((sTg A x : Nat) - (sTg (zwr A 3 x 3) x : Nat)))) M 1) := by
  subst e
  have h6 := hA.1
  unfold zH at h6
  have hgg := hA.2 x x0 x1
  have hB : zOk 999 (zwr (M 0) 3 x 3) := zOk_g hA (by omega) (by unfold zG at hgg ⊢; simp [zwr]; omega)
  refine zMet (by decide) (Nat.le_of_ble_eq_true rfl) ?_
  show zX kX2_gainWithout 6 0 [some (.ref 32), some (.int (zii x)), none] [] _ _
  refine Y_aload_0 i_X2_gainWithout_0 ?_
  refine Y_iload_1 i_X2_gainWithout_1 ?_
  refine Y_callVe (k' := kX2_whenOthersGone) i_X2_gainWithout_2 l_X2_97 m_X2_whenOthersGone (c_X2_whenOthersGone rfl hA x0 x1) rfl rfl rfl rfl rfl ?_
  intro C1
  refine Y_istore_2 i_X2_gainWithout_5 rfl rfl ?_
  refine Y_aload_0 i_X2_gainWithout_6 ?_
  refine X_getR i_X2_gainWithout_7 f_X2_19 rfl ?_
  refine Y_aload_0 i_X2_gainWithout_10 ?_
  refine X_getR i_X2_gainWithout_11 f_X2_15 rfl ?_
  refine Y_callVv (k' := kX0_copyFrom) i_X2_gainWithout_14 l_X2_34 m_X0_copyFrom (c_X0_copyFrom (i := 1) (j := 0) (by omega) (by omega) rfl) rfl rfl rfl rfl rfl ?_
  refine Y_aload_0 i_X2_gainWithout_17 ?_
  refine X_getR i_X2_gainWithout_18 f_X2_19 rfl ?_
  refine X_getR i_X2_gainWithout_21 f_X2_67 rfl ?_
  refine Y_iload_1 i_X2_gainWithout_24 ?_
  refine X_iconst i_X2_gainWithout_25 ?_
  refine Y_iast i_X2_gainWithout_26 rfl ⟨by omega, by omega⟩ rfl (zp0 _ _ _ _ _ _) ?_
  refine Y_iload_2 i_X2_gainWithout_27 ?_
  refine Y_aload_0 i_X2_gainWithout_28 ?_
  refine X_getR i_X2_gainWithout_29 f_X2_19 rfl ?_
  refine Y_iload_1 i_X2_gainWithout_32 ?_
  refine Y_callV (k' := kX0_passTillAllGoneBut) i_X2_gainWithout_33 l_X2_42 m_X0_passTillAllGoneBut (c_X0_passTillAllGoneBut (i := 1) (by omega) hB (by omega) ⟨by omega, by omega⟩) rfl rfl rfl rfl rfl ?_
  refine X_isub i_X2_gainWithout_36 ?_
  refine X_iret i_X2_gainWithout_37 rfl ?_
  exact zre rfl
set_option maxRecDepth 100000 in
theorem c_X2_gainWithCray {M : zMem} {A B : zAft} (e : M 0 = A) (hA : zOk 999 A) {x : Int} (x0 : 0 ≤ x) (x1 : x < 6) (hs : A 3 x = 0 ∨ A 3 x = 1) : zCt kX2_gainWithCray 6 [.ref 32, .int (zii x)] ((zs M 1 B)) (zRetE (.int (zii ((sTg A x : Nat) - (sTg (zwr (zwr A 0 x 5) 3 x 0) x : Nat)))) M 1) := by
  subst e
  have h6 := hA.1
  unfold zH at h6
  have hgg := hA.2 x x0 x1
  have hB0 : zOk 999 (zwr (M 0) 0 x 5) := zOk_g hA (by omega) (by unfold zG at hgg ⊢; simp [zwr]; omega)
  have hB : zOk 999 (zwr (zwr (M 0) 0 x 5) 3 x 0) := zOk_g hB0 (by omega) (by unfold zG at hgg ⊢; simp [zwr]; omega)
  refine zMet (by decide) (Nat.le_of_ble_eq_true rfl) ?_
  show zX kX2_gainWithCray 6 0 [some (.ref 32), some (.int (zii x)), none] [] _ _
  refine Y_aload_0 i_X2_gainWithCray_0 ?_
  refine Y_iload_1 i_X2_gainWithCray_1 ?_
  refine Y_callVe (k' := kX2_whenOthersGone) i_X2_gainWithCray_2 l_X2_97 m_X2_whenOthersGone (c_X2_whenOthersGone rfl hA x0 x1) rfl rfl rfl rfl rfl ?_
  intro C1
  refine Y_istore_2 i_X2_gainWithCray_5 rfl rfl ?_
  refine Y_aload_0 i_X2_gainWithCray_6 ?_
  refine X_getR i_X2_gainWithCray_7 f_X2_19 rfl ?_
  refine Y_aload_0 i_X2_gainWithCray_10 ?_
  refine X_getR i_X2_gainWithCray_11 f_X2_15 rfl ?_
  refine Y_callVv (k' := kX0_copyFrom) i_X2_gainWithCray_14 l_X2_34 m_X0_copyFrom (c_X0_copyFrom (i := 1) (j := 0) (by omega) (by omega) rfl) rfl rfl rfl rfl rfl ?_
  refine Y_aload_0 i_X2_gainWithCray_17 ?_
  refine X_getR i_X2_gainWithCray_18 f_X2_19 rfl ?_
  refine X_getR i_X2_gainWithCray_21 f_X2_100 rfl ?_
  refine Y_iload_1 i_X2_gainWithCray_24 ?_
  refine X_iconst i_X2_gainWithCray_25 ?_
  refine Y_iast i_X2_gainWithCray_26 rfl ⟨by omega, by omega⟩ rfl (zp0 _ _ _ _ _ _) ?_
  refine Y_aload_0 i_X2_gainWithCray_27 ?_
  refine X_getR i_X2_gainWithCray_28 f_X2_19 rfl ?_
  refine X_getR i_X2_gainWithCray_31 f_X2_67 rfl ?_
  refine Y_iload_1 i_X2_gainWithCray_34 ?_
  refine X_iconst i_X2_gainWithCray_35 ?_
  refine Y_iast i_X2_gainWithCray_36 rfl ⟨by omega, by omega⟩ rfl (zp0 _ _ _ _ _ _) ?_
  refine Y_iload_2 i_X2_gainWithCray_37 ?_
  refine Y_aload_0 i_X2_gainWithCray_38 ?_
  refine X_getR i_X2_gainWithCray_39 f_X2_19 rfl ?_
  refine Y_iload_1 i_X2_gainWithCray_42 ?_
  refine Y_callV (k' := kX0_passTillAllGoneBut) i_X2_gainWithCray_43 l_X2_42 m_X0_passTillAllGoneBut (c_X0_passTillAllGoneBut (i := 1) (by omega) hB (by omega) ⟨by omega, by omega⟩) rfl rfl rfl rfl rfl ?_
  refine X_isub i_X2_gainWithCray_46 ?_
  refine X_iret i_X2_gainWithCray_47 rfl ?_
  exact zre rfl
def sFq (A : zAft) (v : Int) : Nat → Bool := fun q => decide (sMany A 2 ≤ (q : Int) + 1 ∧ (sTg (zwr A 6 1 ((q : Int) + 1)) (-1) : Int) ≤ v)
def sFc (A : zAft) (v : Int) : Int := if sFst (sFq A v) 5 = 5 then -9 else (sFst (sFq A v) 5 : Int) + 1
set_option maxRecDepth 100000 in
theorem c_X2_fewestCups {M : zMem} {A B : zAft} (e : M 0 = A) (hA : zOk 999 A) {v : Int} (hv : zR v) : zCt kX2_fewestCups 5 [.ref 32, .int (zii v)] ((zs M 1 B)) (zRetE (.int (zii (sFc A v))) M 1) := by
  subst e
  have h6 := hA.1
  unfold zH at h6
  have hv1 := hv.1
  have hv2 := hv.2
  have hG := sG_le hA.1
  have hmi := sMany_in hA.1 2
  refine zMet (by decide) (Nat.le_of_ble_eq_true rfl) ?_
  show zX kX2_fewestCups 5 0 [some (.ref 32), some (.int (zii v)), none] [] _ _
  have loop : ∀ (n : Nat) (j : Nat) (C : zAft), j + n = 5 → (∀ q, q < j → sFq (M 0) v q = false) → sMany (M 0) 2 ≤ (j : Int) + 1 → zX kX2_fewestCups 5 13 [some (.ref 32), some (.int (zii v)), some (.int (zii ((j : Int) + 1)))] [] (zs M 1 C) (zRetE (.int (zii (sFc (M 0) v))) M 1) := by
    intro n
    induction n with
    | zero =>
      intro j C hg hno hm
      have e9 := sFst_none 5 (show ∀ q, q < 5 → sFq (M 0) v q = false from fun q hq => hno q (by omega))
      refine Y_iload_2 i_X2_fewestCups_13 ?_
      refine X_iconst i_X2_fewestCups_14 ?_
      refine X_icmp_gt i_X2_fewestCups_15 (tgt := 57) rfl ⟨by omega, by omega⟩ ⟨by omega, by omega⟩ (fun h15 => ?_) (fun h15 => by exfalso; omega)
      refine X_bipush i_X2_fewestCups_57 (by decide +kernel) ?_
      refine X_iret i_X2_fewestCups_59 rfl ?_
      exact zre (by unfold sFc; rw [if_pos e9])
    | succ n ih =>
      intro j C hg hno hm
      have hB : zOk 999 (zwr (M 0) 6 1 ((j : Int) + 1)) := zOk_6 hA (Or.inl ⟨rfl, by omega, by omega⟩)
      have hle := sTg_le (zwr (M 0) 6 1 ((j : Int) + 1)) (-1)
      refine Y_iload_2 i_X2_fewestCups_13 ?_
      refine X_iconst i_X2_fewestCups_14 ?_
      refine X_icmp_gt i_X2_fewestCups_15 (tgt := 57) rfl ⟨by omega, by omega⟩ ⟨by omega, by omega⟩ (fun h15 => by exfalso; omega) (fun h15 => ?_)
      refine Y_aload_0 i_X2_fewestCups_18 ?_
      refine X_getR i_X2_fewestCups_19 f_X2_19 rfl ?_
      refine Y_aload_0 i_X2_fewestCups_22 ?_
      refine X_getR i_X2_fewestCups_23 f_X2_15 rfl ?_
      refine Y_callVv (k' := kX0_copyFrom) i_X2_fewestCups_26 l_X2_34 m_X0_copyFrom (c_X0_copyFrom (i := 1) (j := 0) (by omega) (by omega) rfl) rfl rfl rfl rfl rfl ?_
      refine Y_aload_0 i_X2_fewestCups_29 ?_
      refine X_getR i_X2_fewestCups_30 f_X2_19 rfl ?_
      refine Y_iload_2 i_X2_fewestCups_33 ?_
      refine Y_putI i_X2_fewestCups_34 f_X2_38 rfl t_0_7 (zp0 _ _ _ _ _ _) ?_
      refine Y_aload_0 i_X2_fewestCups_37 ?_
      refine X_getR i_X2_fewestCups_38 f_X2_19 rfl ?_
      refine X_iconst i_X2_fewestCups_41 ?_
      refine Y_callV (k' := kX0_passTillAllGoneBut) i_X2_fewestCups_42 l_X2_42 m_X0_passTillAllGoneBut (c_X0_passTillAllGoneBut (i := 1) (by omega) hB (by omega) (zR_lit rfl)) rfl rfl rfl rfl rfl ?_
      change zX _ _ _ _ (.int (zii (sTg (zwr (M 0) 6 1 ((j : Int) + 1)) (-1) : Nat)) :: _) _ _
      refine Y_iload_1 i_X2_fewestCups_45 ?_
      refine X_icmp_gt i_X2_fewestCups_46 (tgt := 51) rfl ⟨by omega, by omega⟩ ⟨by omega, by omega⟩ (fun h46 => ?_) (fun h46 => ?_)
      · refine Y_iinc_2 i_X2_fewestCups_51 rfl rfl ?_
        refine X_goto i_X2_fewestCups_54 (tgt := 13) rfl ?_
        exact X_eq (ih (j + 1) _ (by omega) (fun q hq => by
          by_cases e : q = j
          · subst e; exact decide_eq_false (fun z => by omega)
          · exact hno q (by omega)) (by omega)) (by simp) rfl rfl
      · refine Y_iload_2 i_X2_fewestCups_49 ?_
        refine X_iret i_X2_fewestCups_50 rfl ?_
        have e9 := sFst_eq hno (decide_eq_true ⟨hm, by omega⟩) 5 (by omega)
        exact zre (by unfold sFc; rw [if_neg (by omega), e9])
  refine Y_aload_0 i_X2_fewestCups_0 ?_
  refine X_getR i_X2_fewestCups_1 f_X2_15 rfl ?_
  refine X_iconst i_X2_fewestCups_4 ?_
  refine Y_callV (k' := kX0_howMany) i_X2_fewestCups_5 l_X2_22 m_X0_howMany (c_X0_howMany (i := 0) (by omega) (zs_ne (by decide)) hA (zR_lit rfl)) rfl rfl rfl rfl rfl ?_
  refine X_iconst i_X2_fewestCups_8 ?_
  refine X_mmax i_X2_fewestCups_9 lm_X2_28 m_J9_max_7cf53 ⟨by omega, by omega⟩ ⟨by omega, by omega⟩ rfl rfl ?_
  have hmx : (if (1 : Int) ≤ sMany (M 0) 2 then sMany (M 0) 2 else 1) = ((((if (1 : Int) ≤ sMany (M 0) 2 then sMany (M 0) 2 else 1) - 1).toNat : Nat) : Int) + 1 := by split <;> omega
  have hmy : (((if (1 : Int) ≤ sMany (M 0) 2 then sMany (M 0) 2 else 1) - 1).toNat : Int) ≤ 5 ∧ sMany (M 0) 2 ≤ ((((if (1 : Int) ≤ sMany (M 0) 2 then sMany (M 0) 2 else 1) - 1).toNat : Nat) : Int) + 1 ∧ ∀ q : Nat, q < ((if (1 : Int) ≤ sMany (M 0) 2 then sMany (M 0) 2 else 1) - 1).toNat → (q : Int) + 1 < sMany (M 0) 2 := by split <;> (refine ⟨by omega, by omega, fun q hq => by omega⟩)
  rw [hmx]
  generalize ((if (1 : Int) ≤ sMany (M 0) 2 then sMany (M 0) 2 else 1) - 1).toNat = J at hmy ⊢
  refine Y_istore_2 i_X2_fewestCups_12 rfl rfl ?_
  exact loop (5 - J) J _ (by omega) (fun q hq => decide_eq_false (fun z => by have := hmy.2.2 q hq; omega)) hmy.2.1
-- rules
set_option maxRecDepth 100000 in
theorem c_X2_soonestRule {M : zMem} {A B : zAft} (e : M 0 = A) (hA : zOk 999 A) : zCt kX2_soonestRule 5 [.ref 32] ((zs M 1 B)) (zRetE (.int (zii (sW 100 (fun r => (sTg (zwr A 6 2 (r : Int)) (-1) : Int)) 0 4))) M 1) := by
  subst e
  have h6 := hA.1
  unfold zH at h6
  refine zMet (by decide) (Nat.le_of_ble_eq_true rfl) ?_
  show zX kX2_soonestRule 5 0 [some (.ref 32), none, none, none, none] [] _ _
  have loop : ∀ (n : Nat) (j : Nat) (lx : Option Value) (C : zAft), j + n = 4 → zX kX2_soonestRule 5 7 [some (.ref 32), some (.int (zii (sW 100 ((fun r => (sTg (zwr (M 0) 6 2 (r : Int)) (-1) : Int))) 0 j))), some (.int (zii (sS 100 ((fun r => (sTg (zwr (M 0) 6 2 (r : Int)) (-1) : Int))) j))), some (.int (zii j)), lx] [] (zs M 1 C) (zRetE (.int (zii (sW 100 (fun r => (sTg (zwr (M 0) 6 2 (r : Int)) (-1) : Int)) 0 4))) M 1) := by
    intro n
    induction n with
    | zero =>
      intro j lx C hg 
      obtain rfl : j = 4 := by omega
      have hlim0 := sS_in (lim := 100) (f := (fun r => (sTg (zwr (M 0) 6 2 (r : Int)) (-1) : Int))) (fun q => by first | exact Int.natCast_nonneg _ | (dsimp only; split <;> omega)) (by omega) 4
      refine Y_iload_3 i_X2_soonestRule_7 ?_
      refine X_iconst i_X2_soonestRule_8 ?_
      refine X_icmp_ge i_X2_soonestRule_9 (tgt := 58) rfl ⟨by omega, by omega⟩ ⟨by omega, by omega⟩ (fun h9 => ?_) (fun h9 => by exfalso; omega)
      refine Y_iload_1 i_X2_soonestRule_58 ?_
      refine X_iret i_X2_soonestRule_59 rfl ?_
      exact zre rfl
    | succ n ih =>
      intro j lx C hg 
      have hlim := sS_in (lim := 100) (f := (fun r => (sTg (zwr (M 0) 6 2 (r : Int)) (-1) : Int))) (fun q => by first | exact Int.natCast_nonneg _ | (dsimp only; split <;> omega)) (by omega) j
      have hB : zOk 999 (zwr (M 0) 6 2 (j : Int)) := zOk_6 hA (Or.inr ⟨rfl, by omega, by omega⟩)
      have hle := sTg_le (zwr (M 0) 6 2 (j : Int)) (-1)
      refine Y_iload_3 i_X2_soonestRule_7 ?_
      refine X_iconst i_X2_soonestRule_8 ?_
      refine X_icmp_ge i_X2_soonestRule_9 (tgt := 58) rfl ⟨by omega, by omega⟩ ⟨by omega, by omega⟩ (fun h9 => by exfalso; omega) (fun h9 => ?_)
      refine Y_aload_0 i_X2_soonestRule_12 ?_
      refine X_getR i_X2_soonestRule_13 f_X2_19 rfl ?_
      refine Y_aload_0 i_X2_soonestRule_16 ?_
      refine X_getR i_X2_soonestRule_17 f_X2_15 rfl ?_
      refine Y_callVv (k' := kX0_copyFrom) i_X2_soonestRule_20 l_X2_34 m_X0_copyFrom (c_X0_copyFrom (i := 1) (j := 0) (by omega) (by omega) rfl) rfl rfl rfl rfl rfl ?_
      refine Y_aload_0 i_X2_soonestRule_23 ?_
      refine X_getR i_X2_soonestRule_24 f_X2_19 rfl ?_
      refine Y_iload_3 i_X2_soonestRule_27 ?_
      refine Y_putI i_X2_soonestRule_28 f_X2_45 rfl t_0_8 (zp0 _ _ _ _ _ _) ?_
      refine Y_aload_0 i_X2_soonestRule_31 ?_
      refine X_getR i_X2_soonestRule_32 f_X2_19 rfl ?_
      refine X_iconst i_X2_soonestRule_35 ?_
      refine Y_callV (k' := kX0_passTillAllGoneBut) i_X2_soonestRule_36 l_X2_42 m_X0_passTillAllGoneBut (c_X0_passTillAllGoneBut (i := 1) (by omega) hB (by omega) (zR_lit rfl)) rfl rfl rfl rfl rfl ?_
      change zX _ _ _ _ (.int (zii (sTg (zwr (M 0) 6 2 (j : Int)) (-1) : Nat)) :: _) _ _
      refine Y_istore_4 i_X2_soonestRule_39 rfl rfl ?_
      refine Y_iload_4 i_X2_soonestRule_41 ?_
      refine Y_iload_2 i_X2_soonestRule_43 ?_
      refine X_icmp_ge i_X2_soonestRule_44 (tgt := 52) rfl ⟨by omega, by omega⟩ ⟨by omega, by omega⟩ (fun h44 => ?_) (fun h44 => ?_)
      · refine Y_iinc_3 i_X2_soonestRule_52 rfl rfl ?_
        refine X_goto i_X2_soonestRule_55 (tgt := 7) rfl ?_
        exact X_eq (ih (j + 1) _ _ (by omega)) (by simp [sS, sW, Int.not_lt.mpr h44]; rfl) rfl rfl
      · refine Y_iload_4 i_X2_soonestRule_47 ?_
        refine Y_istore_2 i_X2_soonestRule_49 rfl rfl ?_
        refine Y_iload_3 i_X2_soonestRule_50 ?_
        refine Y_istore_1 i_X2_soonestRule_51 rfl rfl ?_
        refine Y_iinc_3 i_X2_soonestRule_52 rfl rfl ?_
        refine X_goto i_X2_soonestRule_55 (tgt := 7) rfl ?_
        exact X_eq (ih (j + 1) _ _ (by omega)) (by simp [sS, sW, Int.not_le.mp h44]; rfl) rfl rfl
  refine X_iconst i_X2_soonestRule_0 ?_
  refine Y_istore_1 i_X2_soonestRule_1 rfl rfl ?_
  refine X_bipush i_X2_soonestRule_2 (by decide +kernel) ?_
  refine Y_istore_2 i_X2_soonestRule_4 rfl rfl ?_
  refine X_iconst i_X2_soonestRule_5 ?_
  refine Y_istore_3 i_X2_soonestRule_6 rfl rfl ?_
  exact loop 4 0 _ _ (by omega)
def sLz (f : Nat → Int) : Nat → Int
  | 0 => 0
  | n + 1 => if sLm f n < f n then n else sLz f n
theorem sLm_in2 {f : Nat → Int} {c : Int} (hc : 0 ≤ c) (h : ∀ g, 0 ≤ f g ∧ f g ≤ c) : ∀ n, -9 ≤ sLm f n ∧ sLm f n ≤ c := by
  intro n
  induction n with
  | zero => simp [sLm]; omega
  | succ n ih =>
    have := h n
    simp only [sLm]; split <;> omega
def sMp (A : zAft) : Nat → Int := fun r => if r < 4 then sRun (zwr A 6 2 (r : Int)) 99 6 4 else 0
theorem sMp_in {A : zAft} (h : zOk 999 A) (r : Nat) : 0 ≤ sMp A r ∧ sMp A r ≤ 6588 := by
  unfold sMp
  split
  next hr =>
    have hB : zOk 999 (zwr A 6 2 (r : Int)) := zOk_6 h (Or.inr ⟨rfl, by omega, by omega⟩)
    have := (sRun_ok hB 99).1
    unfold zH at this
    omega
  next => omega
set_option maxRecDepth 100000 in
theorem c_X2_mostPouredRule {M : zMem} {A B : zAft} (e : M 0 = A) (hA : zOk 999 A) : zCt kX2_mostPouredRule 5 [.ref 32] ((zs M 1 B)) (zRetE (.int (zii (sLz (sMp A) 4))) M 1) := by
  subst e
  have h6 := hA.1
  unfold zH at h6
  refine zMet (by decide) (Nat.le_of_ble_eq_true rfl) ?_
  show zX kX2_mostPouredRule 5 0 [some (.ref 32), none, none, none] [] _ _
  have loop : ∀ (n : Nat) (j : Nat) (C : zAft), j + n = 4 → zX kX2_mostPouredRule 5 7 [some (.ref 32), some (.int (zii (sLz (sMp (M 0)) j))), some (.int (zii (sLm (sMp (M 0)) j))), some (.int (zii j))] [] (zs M 1 C) (zRetE (.int (zii (sLz (sMp (M 0)) 4))) M 1) := by
    intro n
    induction n with
    | zero =>
      intro j C hg 
      obtain rfl : j = 4 := by omega
      refine Y_iload_3 i_X2_mostPouredRule_7 ?_
      refine X_iconst i_X2_mostPouredRule_8 ?_
      refine X_icmp_ge i_X2_mostPouredRule_9 (tgt := 67) rfl ⟨by omega, by omega⟩ ⟨by omega, by omega⟩ (fun h9 => ?_) (fun h9 => by exfalso; omega)
      refine Y_iload_1 i_X2_mostPouredRule_67 ?_
      refine X_iret i_X2_mostPouredRule_68 rfl ?_
      exact zre rfl
    | succ n ih =>
      intro j C hg 
      have hB : zOk 999 (zwr (M 0) 6 2 (j : Int)) := zOk_6 hA (Or.inr ⟨rfl, by omega, by omega⟩)
      have h1 := sMp_in hA j
      have h2 := sLm_in2 (c := 6588) (by omega) (sMp_in hA) j
      have h3 : sRun (zwr (M 0) 6 2 (j : Int)) 99 6 4 = sMp (M 0) j := by unfold sMp; rw [if_pos (by omega)]
      refine Y_iload_3 i_X2_mostPouredRule_7 ?_
      refine X_iconst i_X2_mostPouredRule_8 ?_
      refine X_icmp_ge i_X2_mostPouredRule_9 (tgt := 67) rfl ⟨by omega, by omega⟩ ⟨by omega, by omega⟩ (fun h9 => by exfalso; omega) (fun h9 => ?_)
      refine Y_aload_0 i_X2_mostPouredRule_12 ?_
      refine X_getR i_X2_mostPouredRule_13 f_X2_19 rfl ?_
      refine Y_aload_0 i_X2_mostPouredRule_16 ?_
      refine X_getR i_X2_mostPouredRule_17 f_X2_15 rfl ?_
      refine Y_callVv (k' := kX0_copyFrom) i_X2_mostPouredRule_20 l_X2_34 m_X0_copyFrom (c_X0_copyFrom (i := 1) (j := 0) (by omega) (by omega) rfl) rfl rfl rfl rfl rfl ?_
      refine Y_aload_0 i_X2_mostPouredRule_23 ?_
      refine X_getR i_X2_mostPouredRule_24 f_X2_19 rfl ?_
      refine Y_iload_3 i_X2_mostPouredRule_27 ?_
      refine Y_putI i_X2_mostPouredRule_28 f_X2_45 rfl t_0_8 (zp0 _ _ _ _ _ _) ?_
      refine Y_aload_0 i_X2_mostPouredRule_31 ?_
      refine X_getR i_X2_mostPouredRule_32 f_X2_19 rfl ?_
      refine X_bipush i_X2_mostPouredRule_35 (by decide +kernel) ?_
      refine Y_callVv (k' := kX0_pass) i_X2_mostPouredRule_37 l_X2_48 m_X0_pass (c_X0_pass (i := 1) (t := 99) (by omega) hB (by omega) (by omega)) rfl rfl rfl rfl rfl ?_
      refine Y_aload_0 i_X2_mostPouredRule_40 ?_
      refine X_getR i_X2_mostPouredRule_41 f_X2_19 rfl ?_
      refine Y_getI i_X2_mostPouredRule_44 f_X2_52 rfl (zg0 _ _ _ _ _) ?_
      rw [h3]
      refine Y_iload_2 i_X2_mostPouredRule_47 ?_
      refine X_icmp_le i_X2_mostPouredRule_48 (tgt := 61) rfl ⟨by omega, by omega⟩ ⟨by omega, by omega⟩ (fun h48 => ?_) (fun h48 => ?_)
      · refine Y_iinc_3 i_X2_mostPouredRule_61 rfl rfl ?_
        refine X_goto i_X2_mostPouredRule_64 (tgt := 7) rfl ?_
        exact X_eq (ih (j + 1) _ (by omega)) (by simp [sLz, sLm, Int.not_lt.mpr h48]) rfl rfl
      · refine Y_aload_0 i_X2_mostPouredRule_51 ?_
        refine X_getR i_X2_mostPouredRule_52 f_X2_19 rfl ?_
        refine Y_getI i_X2_mostPouredRule_55 f_X2_52 rfl (zg0 _ _ _ _ _) ?_
        rw [h3]
        refine Y_istore_2 i_X2_mostPouredRule_58 rfl rfl ?_
        refine Y_iload_3 i_X2_mostPouredRule_59 ?_
        refine Y_istore_1 i_X2_mostPouredRule_60 rfl rfl ?_
        refine Y_iinc_3 i_X2_mostPouredRule_61 rfl rfl ?_
        refine X_goto i_X2_mostPouredRule_64 (tgt := 7) rfl ?_
        exact X_eq (ih (j + 1) _ (by omega)) (by simp [sLz, sLm, Int.not_le.mp h48]) rfl rfl
  refine X_iconst i_X2_mostPouredRule_0 ?_
  refine Y_istore_1 i_X2_mostPouredRule_1 rfl rfl ?_
  refine X_bipush i_X2_mostPouredRule_2 (by decide +kernel) ?_
  refine Y_istore_2 i_X2_mostPouredRule_4 rfl rfl ?_
  refine X_iconst i_X2_mostPouredRule_5 ?_
  refine Y_istore_3 i_X2_mostPouredRule_6 rfl rfl ?_
  exact loop 4 0 _ (by omega)
def sRg (A : zAft) : Nat → Int := fun s => if zand (s : Int) (zxor (sSet A 0 (sG A)) (-1)) = 0 then (sTg (sRi A (s : Int) (sG A)) (-1) : Int) else 100
theorem sRg_in (A : zAft) (n : Nat) : 0 ≤ sRg A n := by unfold sRg; split <;> omega
theorem zand_in {a : Int} (b : Int) (h0 : 0 ≤ a) (h1 : a < 64) : 0 ≤ zand a b ∧ zand a b < 64 := by
  unfold zand
  have e : zii a = nI a.toNat := by
    unfold zii nI
    rw [show a = (a.toNat : Int) by omega]
    apply Int32.toInt_inj.mp
    rw [show ((a.toNat : Int)).toNat = a.toNat by omega]
    rw [Int32.toInt_ofInt_of_le (by omega) (by omega)]
    exact (nI_toInt (by omega)).symm
  have h3 : (zii a &&& zii b).toBitVec.toNat ≤ a.toNat := by
    have e2 : (zii a &&& zii b).toBitVec = (zii a).toBitVec &&& (zii b).toBitVec := rfl
    rw [e2, BitVec.toNat_and]
    have e3 : (zii a).toBitVec.toNat = a.toNat := by
      rw [e]; exact pk_tn (by omega)
    rw [e3]
    exact Nat.and_le_left
  have h4 : (zii a &&& zii b).toInt = (zii a &&& zii b).toBitVec.toInt := rfl
  rw [h4, BitVec.toInt_eq_toNat_of_lt (by omega)]
  omega
set_option maxRecDepth 100000 in
theorem c_X2_soonestRising {M : zMem} {A B : zAft} (e : M 0 = A) (hA : zOk 999 A) {w : Int} (hw : zR w) : zCt kX2_soonestRising 5 [.ref 32, .int (zii w)] ((zs M 1 B)) (zRetE (.int (zii (if w = 0 then sW 100 (sRg A) (-9) 64 else sN (sS 100 (sRg A) 64)))) M 1) := by
  subst e
  have h6 := hA.1
  unfold zH at h6
  have hw1 := hw.1
  have hw2 := hw.2
  have hG := sG_le hA.1
  refine zMet (by decide) (Nat.le_of_ble_eq_true rfl) ?_
  show zX kX2_soonestRising 5 0 [some (.ref 32), some (.int (zii w)), none, none, none, none, none] [] _ _
  have loop : ∀ (n : Nat) (j : Nat) (lx : Option Value) (C : zAft), j + n = 64 → zX kX2_soonestRising 5 19 [some (.ref 32), some (.int (zii w)), some (.int (zii (sSet (M 0) 0 (sG (M 0))))), some (.int (zii (sW 100 (sRg (M 0)) (-9) j))), some (.int (zii (sS 100 (sRg (M 0)) j))), some (.int (zii j)), lx] [] (zs M 1 C) (zRetE (.int (zii (if w = 0 then sW 100 (sRg (M 0)) (-9) 64 else sN (sS 100 (sRg (M 0)) 64)))) M 1) := by
    intro n
    induction n with
    | zero =>
      intro j lx C hg 
      obtain rfl : j = 64 := by omega
      have hlim := sS_in (lim := 100) (sRg_in (M 0)) (by omega) 64
      refine Y_iload_5 i_X2_soonestRising_19 ?_
      refine X_bipush i_X2_soonestRising_21 (by decide +kernel) ?_
      refine X_icmp_ge i_X2_soonestRising_23 (tgt := 88) rfl ⟨by omega, by omega⟩ ⟨by omega, by omega⟩ (fun h23 => ?_) (fun h23 => by exfalso; omega)
      refine Y_iload_1 i_X2_soonestRising_88 ?_
      refine Y_if_ne i_X2_soonestRising_89 (tgt := 96) rfl ⟨by omega, by omega⟩ (fun h89 => ?_) (fun h89 => ?_)
      · refine Y_iload_4 i_X2_soonestRising_96 ?_
        refine Y_callS (k' := kX9_noneIfNever) i_X2_soonestRising_98 l_X2_61 m_X9_noneIfNever (c_X9_noneIfNever ⟨by omega, by omega⟩) rfl rfl rfl rfl ?_
        refine X_iret i_X2_soonestRising_101 rfl ?_
        exact zre (by rw [if_neg h89])
      · refine Y_iload_3 i_X2_soonestRising_92 ?_
        refine X_goto i_X2_soonestRising_93 (tgt := 101) rfl ?_
        refine X_iret i_X2_soonestRising_101 rfl ?_
        exact zre (by rw [if_pos h89])
    | succ n ih =>
      intro j lx C hg 
      have hlim := sS_in (lim := 100) (sRg_in (M 0)) (by omega) j
      have hza := zand_in (a := (j : Int)) (zxor (sSet (M 0) 0 (sG (M 0))) (-1)) (by omega) (by omega)
      have hB := sRi_ok hA (j : Int) (sG (M 0)) hG.1
      have hle := sTg_le (sRi (M 0) (j : Int) (sG (M 0))) (-1)
      refine Y_iload_5 i_X2_soonestRising_19 ?_
      refine X_bipush i_X2_soonestRising_21 (by decide +kernel) ?_
      refine X_icmp_ge i_X2_soonestRising_23 (tgt := 88) rfl ⟨by omega, by omega⟩ ⟨by omega, by omega⟩ (fun h23 => by exfalso; omega) (fun h23 => ?_)
      refine Y_iload_5 i_X2_soonestRising_26 ?_
      refine Y_iload_2 i_X2_soonestRising_28 ?_
      refine X_iconst i_X2_soonestRising_29 ?_
      refine X_ixor i_X2_soonestRising_30 ?_
      refine X_iand i_X2_soonestRising_31 ?_
      refine X_if_eq i_X2_soonestRising_32 (tgt := 38) rfl ⟨by omega, by omega⟩ (fun h32 => ?_) (fun h32 => ?_)
      · refine Y_aload_0 i_X2_soonestRising_38 ?_
        refine X_getR i_X2_soonestRising_39 f_X2_19 rfl ?_
        refine Y_aload_0 i_X2_soonestRising_42 ?_
        refine X_getR i_X2_soonestRising_43 f_X2_15 rfl ?_
        refine Y_callVv (k' := kX0_copyFrom) i_X2_soonestRising_46 l_X2_34 m_X0_copyFrom (c_X0_copyFrom (i := 1) (j := 0) (by omega) (by omega) rfl) rfl rfl rfl rfl rfl ?_
        refine Y_aload_0 i_X2_soonestRising_49 ?_
        refine X_getR i_X2_soonestRising_50 f_X2_19 rfl ?_
        refine Y_iload_5 i_X2_soonestRising_53 ?_
        refine Y_callVv (k' := kX0_riseAll) i_X2_soonestRising_55 l_X2_58 m_X0_riseAll (c_X0_riseAll (i := 1) (by omega) hA) rfl rfl rfl rfl rfl ?_
        refine Y_aload_0 i_X2_soonestRising_58 ?_
        refine X_getR i_X2_soonestRising_59 f_X2_19 rfl ?_
        refine X_iconst i_X2_soonestRising_62 ?_
        refine Y_callV (k' := kX0_passTillAllGoneBut) i_X2_soonestRising_63 l_X2_42 m_X0_passTillAllGoneBut (c_X0_passTillAllGoneBut (i := 1) (by omega) hB (by omega) (zR_lit rfl)) rfl rfl rfl rfl rfl ?_
        have hf : sRg (M 0) j = (sTg (sRi (M 0) (j : Int) (sG (M 0))) (-1) : Nat) := by unfold sRg; rw [if_pos h32]
        change zX _ _ _ _ (.int (zii (sTg (sRi (M 0) (j : Int) (sG (M 0))) (-1) : Nat)) :: _) _ _
        have hle2 : sRg (M 0) j ≤ 100 := by rw [hf]; omega
        rw [← hf]
        refine Y_istore_6 i_X2_soonestRising_66 rfl rfl ?_
        refine Y_iload_6 i_X2_soonestRising_68 ?_
        refine Y_iload_4 i_X2_soonestRising_70 ?_
        refine X_icmp_ge i_X2_soonestRising_72 (tgt := 82) rfl ⟨by omega, by omega⟩ ⟨by omega, by omega⟩ (fun h72 => ?_) (fun h72 => ?_)
        · refine Y_iinc_5 i_X2_soonestRising_82 rfl rfl ?_
          refine X_goto i_X2_soonestRising_85 (tgt := 19) rfl ?_
          exact X_eq (ih (j + 1) _ _ (by omega)) (by simp [sS, sW, Int.not_lt.mpr h72]; rfl) rfl rfl
        · refine Y_iload_6 i_X2_soonestRising_75 ?_
          refine Y_istore_4 i_X2_soonestRising_77 rfl rfl ?_
          refine Y_iload_5 i_X2_soonestRising_79 ?_
          refine Y_istore_3 i_X2_soonestRising_81 rfl rfl ?_
          refine Y_iinc_5 i_X2_soonestRising_82 rfl rfl ?_
          refine X_goto i_X2_soonestRising_85 (tgt := 19) rfl ?_
          exact X_eq (ih (j + 1) _ _ (by omega)) (by simp [sS, sW, Int.not_le.mp h72]; rfl) rfl rfl
      · refine X_goto i_X2_soonestRising_35 (tgt := 82) rfl ?_
        refine Y_iinc_5 i_X2_soonestRising_82 rfl rfl ?_
        refine X_goto i_X2_soonestRising_85 (tgt := 19) rfl ?_
        have hf : sRg (M 0) j = 100 := by unfold sRg; rw [if_neg h32]
        exact X_eq (ih (j + 1) _ _ (by omega)) (by simp [sS, sW, hf, Int.not_lt.mpr hlim.2]; rfl) rfl rfl
  refine Y_aload_0 i_X2_soonestRising_0 ?_
  refine X_getR i_X2_soonestRising_1 f_X2_15 rfl ?_
  refine X_iconst i_X2_soonestRising_4 ?_
  refine Y_callV (k' := kX0_setOf) i_X2_soonestRising_5 l_X2_55 m_X0_setOf (c_X0_setOf (i := 0) (by omega) (zs_ne (by decide)) hA (zR_lit rfl)) rfl rfl rfl rfl rfl ?_
  refine Y_istore_2 i_X2_soonestRising_8 rfl rfl ?_
  refine X_bipush i_X2_soonestRising_9 (by decide +kernel) ?_
  refine Y_istore_3 i_X2_soonestRising_11 rfl rfl ?_
  refine X_bipush i_X2_soonestRising_12 (by decide +kernel) ?_
  refine Y_istore_4 i_X2_soonestRising_14 rfl rfl ?_
  refine X_iconst i_X2_soonestRising_16 ?_
  refine Y_istore_5 i_X2_soonestRising_17 rfl rfl ?_
  exact loop 64 0 _ _ (by omega)
def sQ (A : zAft) (g : Int) (m : Int) : Nat → zAft
  | 0 => A
  | n + 1 => sMin (if (n : Int) = m ∧ sQ A g m n 3 g = 0 then sRise (sQ A g m n) g else sQ A g m n)
def sQr (A : zAft) (g m : Int) (n : Nat) : zAft := if (n : Int) = m ∧ sQ A g m n 3 g = 0 then sRise (sQ A g m n) g else sQ A g m n
def sWr (A : zAft) (g m : Int) : Nat := sFst (fun n => decide (sQr A g m n 3 g = 3)) 100
theorem sWr_le (A : zAft) (g m : Int) : sWr A g m ≤ 100 := sFst_le _ 100
theorem sQ_ok {b : Int} {A : zAft} (h : zOk b A) {g m : Int} (g0 : 0 ≤ g) (g1 : g < 6) : ∀ n : Nat, zOk (b + n) (sQ A g m n) ∧ zOk (b + n) (sQr A g m n) := by
  have key : ∀ n : Nat, zOk (b + n) (sQ A g m n) → zOk (b + n) (sQr A g m n) := by
    intro n h1
    unfold sQr
    split
    next h2 => exact sRise_ok h1 g0 g1 (by rw [h2.2]; decide)
    next => exact h1
  intro n
  induction n with
  | zero => exact ⟨by simpa [sQ] using h, key 0 (by simpa [sQ] using h)⟩
  | succ n ih =>
    have h1 : zOk (b + ((n + 1 : Nat) : Int)) (sQ A g m (n + 1)) := by
      have := sMin_ok ih.2
      rw [show b + ((n + 1 : Nat) : Int) = b + n + 1 by omega]
      exact this
    exact ⟨h1, key _ h1⟩
set_option maxRecDepth 100000 in
theorem c_X2_whenGoneRisingBehind {M : zMem} {A B : zAft} (e : M 0 = A) (hA : zOk 999 A) {x : Int} (x0 : 0 ≤ x) (x1 : x < 6) {m : Int} (m0 : 0 ≤ m) (m1 : m ≤ 30) : zCt kX2_whenGoneRisingBehind 4 [.ref 32, .int (zii x), .int (zii m)] ((zs M 1 B)) (zRetE (.int (zii (sWr A x m : Nat))) M 1) := by
  subst e
  have h6 := hA.1
  unfold zH at h6
  refine zMet (by decide) (Nat.le_of_ble_eq_true rfl) ?_
  show zX kX2_whenGoneRisingBehind 4 0 [some (.ref 32), some (.int (zii x)), some (.int (zii m)), none] [] _ _
  have loop : ∀ (n : Nat) (j : Nat), j + n = 100 → (∀ q, q < j → (fun n => decide (sQr (M 0) x m n 3 x = 3)) q = false) → zX kX2_whenGoneRisingBehind 4 13 [some (.ref 32), some (.int (zii x)), some (.int (zii m)), some (.int (zii j))] [] (zs M 1 (sQ (M 0) x m j)) (zRetE (.int (zii (sWr (M 0) x m : Nat))) M 1) := by
    intro n
    induction n with
    | zero =>
      intro j  hg hno
      obtain rfl : j = 100 := by omega
      have e9 : sWr (M 0) x m = 100 := sFst_none 100 hno
      refine Y_iload_3 i_X2_whenGoneRisingBehind_13 ?_
      refine X_bipush i_X2_whenGoneRisingBehind_14 (by decide +kernel) ?_
      refine X_icmp_gt i_X2_whenGoneRisingBehind_16 (tgt := 72) rfl ⟨by omega, by omega⟩ ⟨by omega, by omega⟩ (fun h16 => ?_) (fun h16 => by exfalso; omega)
      refine X_bipush i_X2_whenGoneRisingBehind_72 (by decide +kernel) ?_
      refine X_iret i_X2_whenGoneRisingBehind_74 rfl ?_
      exact zre (by rw [e9]; rfl)
    | succ n ih =>
      intro j  hg hno
      have hO := (sQ_ok (m := m) hA x0 x1 j).1
      have hO2 := (sQ_ok (m := m) hA x0 x1 j).2
      have hgg := hO.2 x x0 x1
      have hg2 := hO2.2 x x0 x1
      unfold zG at hgg hg2
      refine Y_iload_3 i_X2_whenGoneRisingBehind_13 ?_
      refine X_bipush i_X2_whenGoneRisingBehind_14 (by decide +kernel) ?_
      refine X_icmp_gt i_X2_whenGoneRisingBehind_16 (tgt := 72) rfl ⟨by omega, by omega⟩ ⟨by omega, by omega⟩ (fun h16 => by exfalso; omega) (fun h16 => ?_)
      refine Y_iload_3 i_X2_whenGoneRisingBehind_19 ?_
      refine Y_iload_2 i_X2_whenGoneRisingBehind_20 ?_
      refine Y_icmp_ne i_X2_whenGoneRisingBehind_21 (tgt := 44) rfl ⟨by omega, by omega⟩ ⟨by omega, by omega⟩ (fun h21 => ?_) (fun h21 => ?_)
      · have hb : sQr (M 0) x m j = sQ (M 0) x m j := by unfold sQr; rw [if_neg (fun z => h21 z.1)]
        rw [← hb]
        refine Y_aload_0 i_X2_whenGoneRisingBehind_44 ?_
        refine X_getR i_X2_whenGoneRisingBehind_45 f_X2_19 rfl ?_
        refine X_getR i_X2_whenGoneRisingBehind_48 f_X2_67 rfl ?_
        refine Y_iload_1 i_X2_whenGoneRisingBehind_51 ?_
        refine Y_iald i_X2_whenGoneRisingBehind_52 rfl ⟨by omega, by omega⟩ rfl (zg0 _ _ _ _ _) ?_
        refine X_iconst i_X2_whenGoneRisingBehind_53 ?_
        refine Y_icmp_ne i_X2_whenGoneRisingBehind_54 (tgt := 59) rfl ⟨by omega, by omega⟩ ⟨by omega, by omega⟩ (fun h54 => ?_) (fun h54 => ?_)
        · refine Y_aload_0 i_X2_whenGoneRisingBehind_59 ?_
          refine X_getR i_X2_whenGoneRisingBehind_60 f_X2_19 rfl ?_
          refine Y_callVv (k' := kX0_passOne) i_X2_whenGoneRisingBehind_63 l_X2_73 m_X0_passOne (c_X0_passOne (i := 1) (by omega) hO2 (by omega)) rfl rfl rfl rfl rfl ?_
          refine Y_iinc_3 i_X2_whenGoneRisingBehind_66 rfl rfl ?_
          refine X_goto i_X2_whenGoneRisingBehind_69 (tgt := 13) rfl ?_
          exact X_eq (ih (j + 1) (by omega) (fun q hq => by
            by_cases e : q = j
            · subst e; exact decide_eq_false h54
            · exact hno q (by omega))) (by simp) rfl rfl
        · refine Y_iload_3 i_X2_whenGoneRisingBehind_57 ?_
          refine X_iret i_X2_whenGoneRisingBehind_58 rfl ?_
          have e9 : sWr (M 0) x m = j := sFst_eq hno (decide_eq_true h54) 100 (by omega)
          exact zre (by rw [e9])
      · refine Y_aload_0 i_X2_whenGoneRisingBehind_24 ?_
        refine X_getR i_X2_whenGoneRisingBehind_25 f_X2_19 rfl ?_
        refine X_getR i_X2_whenGoneRisingBehind_28 f_X2_67 rfl ?_
        refine Y_iload_1 i_X2_whenGoneRisingBehind_31 ?_
        refine Y_iald i_X2_whenGoneRisingBehind_32 rfl ⟨by omega, by omega⟩ rfl (zg0 _ _ _ _ _) ?_
        refine Y_if_ne i_X2_whenGoneRisingBehind_33 (tgt := 44) rfl ⟨by omega, by omega⟩ (fun h33 => ?_) (fun h33 => ?_)
        · have hb : sQr (M 0) x m j = sQ (M 0) x m j := by unfold sQr; rw [if_neg (fun z => h33 z.2)]
          rw [← hb]
          refine Y_aload_0 i_X2_whenGoneRisingBehind_44 ?_
          refine X_getR i_X2_whenGoneRisingBehind_45 f_X2_19 rfl ?_
          refine X_getR i_X2_whenGoneRisingBehind_48 f_X2_67 rfl ?_
          refine Y_iload_1 i_X2_whenGoneRisingBehind_51 ?_
          refine Y_iald i_X2_whenGoneRisingBehind_52 rfl ⟨by omega, by omega⟩ rfl (zg0 _ _ _ _ _) ?_
          refine X_iconst i_X2_whenGoneRisingBehind_53 ?_
          refine Y_icmp_ne i_X2_whenGoneRisingBehind_54 (tgt := 59) rfl ⟨by omega, by omega⟩ ⟨by omega, by omega⟩ (fun h54 => ?_) (fun h54 => ?_)
          · refine Y_aload_0 i_X2_whenGoneRisingBehind_59 ?_
            refine X_getR i_X2_whenGoneRisingBehind_60 f_X2_19 rfl ?_
            refine Y_callVv (k' := kX0_passOne) i_X2_whenGoneRisingBehind_63 l_X2_73 m_X0_passOne (c_X0_passOne (i := 1) (by omega) hO2 (by omega)) rfl rfl rfl rfl rfl ?_
            refine Y_iinc_3 i_X2_whenGoneRisingBehind_66 rfl rfl ?_
            refine X_goto i_X2_whenGoneRisingBehind_69 (tgt := 13) rfl ?_
            exact X_eq (ih (j + 1) (by omega) (fun q hq => by
              by_cases e : q = j
              · subst e; exact decide_eq_false h54
              · exact hno q (by omega))) (by simp) rfl rfl
          · refine Y_iload_3 i_X2_whenGoneRisingBehind_57 ?_
            refine X_iret i_X2_whenGoneRisingBehind_58 rfl ?_
            have e9 : sWr (M 0) x m = j := sFst_eq hno (decide_eq_true h54) 100 (by omega)
            exact zre (by rw [e9])
        · refine Y_aload_0 i_X2_whenGoneRisingBehind_36 ?_
          refine X_getR i_X2_whenGoneRisingBehind_37 f_X2_19 rfl ?_
          refine Y_iload_1 i_X2_whenGoneRisingBehind_40 ?_
          refine Y_callVv (k' := kX0_rise) i_X2_whenGoneRisingBehind_41 l_X2_70 m_X0_rise (c_X0_rise (i := 1) (by omega) x0 x1) rfl rfl rfl rfl rfl ?_
          have hb : sQr (M 0) x m j = sRise (sQ (M 0) x m j) x := by unfold sQr; rw [if_pos ⟨h21, h33⟩]
          rw [← hb]
          refine Y_aload_0 i_X2_whenGoneRisingBehind_44 ?_
          refine X_getR i_X2_whenGoneRisingBehind_45 f_X2_19 rfl ?_
          refine X_getR i_X2_whenGoneRisingBehind_48 f_X2_67 rfl ?_
          refine Y_iload_1 i_X2_whenGoneRisingBehind_51 ?_
          refine Y_iald i_X2_whenGoneRisingBehind_52 rfl ⟨by omega, by omega⟩ rfl (zg0 _ _ _ _ _) ?_
          refine X_iconst i_X2_whenGoneRisingBehind_53 ?_
          refine Y_icmp_ne i_X2_whenGoneRisingBehind_54 (tgt := 59) rfl ⟨by omega, by omega⟩ ⟨by omega, by omega⟩ (fun h54 => ?_) (fun h54 => ?_)
          · refine Y_aload_0 i_X2_whenGoneRisingBehind_59 ?_
            refine X_getR i_X2_whenGoneRisingBehind_60 f_X2_19 rfl ?_
            refine Y_callVv (k' := kX0_passOne) i_X2_whenGoneRisingBehind_63 l_X2_73 m_X0_passOne (c_X0_passOne (i := 1) (by omega) hO2 (by omega)) rfl rfl rfl rfl rfl ?_
            refine Y_iinc_3 i_X2_whenGoneRisingBehind_66 rfl rfl ?_
            refine X_goto i_X2_whenGoneRisingBehind_69 (tgt := 13) rfl ?_
            exact X_eq (ih (j + 1) (by omega) (fun q hq => by
              by_cases e : q = j
              · subst e; exact decide_eq_false h54
              · exact hno q (by omega))) (by simp) rfl rfl
          · refine Y_iload_3 i_X2_whenGoneRisingBehind_57 ?_
            refine X_iret i_X2_whenGoneRisingBehind_58 rfl ?_
            have e9 : sWr (M 0) x m = j := sFst_eq hno (decide_eq_true h54) 100 (by omega)
            exact zre (by rw [e9])
  refine Y_aload_0 i_X2_whenGoneRisingBehind_0 ?_
  refine X_getR i_X2_whenGoneRisingBehind_1 f_X2_19 rfl ?_
  refine Y_aload_0 i_X2_whenGoneRisingBehind_4 ?_
  refine X_getR i_X2_whenGoneRisingBehind_5 f_X2_15 rfl ?_
  refine Y_callVv (k' := kX0_copyFrom) i_X2_whenGoneRisingBehind_8 l_X2_34 m_X0_copyFrom (c_X0_copyFrom (i := 1) (j := 0) (by omega) (by omega) rfl) rfl rfl rfl rfl rfl ?_
  refine X_iconst i_X2_whenGoneRisingBehind_11 ?_
  refine Y_istore_3 i_X2_whenGoneRisingBehind_12 rfl rfl ?_
  exact loop 100 0 (by omega) (fun q h => absurd h (by omega))
set_option maxRecDepth 100000 in
theorem c_X2_soonestRiseOf {M : zMem} {A B : zAft} (e : M 0 = A) (hA : zOk 999 A) {x : Int} (x0 : 0 ≤ x) (x1 : x < 6) {w : Int} (hw : zR w) : zCt kX2_soonestRiseOf 5 [.ref 32, .int (zii x), .int (zii w)] ((zs M 1 B)) (zRetE (.int (zii (if w = 0 then sW 100 (fun m => (sWr A x (m : Int) : Int)) (-9) 31 else sN (sS 100 (fun m => (sWr A x (m : Int) : Int)) 31)))) M 1) := by
  subst e
  have h6 := hA.1
  unfold zH at h6
  have hw1 := hw.1
  have hw2 := hw.2
  have hnn : ∀ m : Nat, 0 ≤ (sWr (M 0) x (m : Int) : Int) := fun m => Int.natCast_nonneg _
  refine zMet (by decide) (Nat.le_of_ble_eq_true rfl) ?_
  show zX kX2_soonestRiseOf 5 0 [some (.ref 32), some (.int (zii x)), some (.int (zii w)), none, none, none, none] [] _ _
  have loop : ∀ (n : Nat) (j : Nat) (lx : Option Value) (C : zAft), j + n = 31 → zX kX2_soonestRiseOf 5 10 [some (.ref 32), some (.int (zii x)), some (.int (zii w)), some (.int (zii (sW 100 (fun m => (sWr (M 0) x (m : Int) : Int)) (-9) j))), some (.int (zii (sS 100 (fun m => (sWr (M 0) x (m : Int) : Int)) j))), some (.int (zii j)), lx] [] (zs M 1 C) (zRetE (.int (zii (if w = 0 then sW 100 (fun m => (sWr (M 0) x (m : Int) : Int)) (-9) 31 else sN (sS 100 (fun m => (sWr (M 0) x (m : Int) : Int)) 31)))) M 1) := by
    intro n
    induction n with
    | zero =>
      intro j lx C hg 
      obtain rfl : j = 31 := by omega
      have hlim := sS_in (lim := 100) hnn (by omega) 31
      refine Y_iload_5 i_X2_soonestRiseOf_10 ?_
      refine X_bipush i_X2_soonestRiseOf_12 (by decide +kernel) ?_
      refine X_icmp_gt i_X2_soonestRiseOf_14 (tgt := 46) rfl ⟨by omega, by omega⟩ ⟨by omega, by omega⟩ (fun h14 => ?_) (fun h14 => by exfalso; omega)
      refine Y_iload_2 i_X2_soonestRiseOf_46 ?_
      refine Y_if_ne i_X2_soonestRiseOf_47 (tgt := 54) rfl ⟨by omega, by omega⟩ (fun h47 => ?_) (fun h47 => ?_)
      · refine Y_iload_4 i_X2_soonestRiseOf_54 ?_
        refine Y_callS (k' := kX9_noneIfNever) i_X2_soonestRiseOf_56 l_X2_61 m_X9_noneIfNever (c_X9_noneIfNever ⟨by omega, by omega⟩) rfl rfl rfl rfl ?_
        refine X_iret i_X2_soonestRiseOf_59 rfl ?_
        exact zre (by rw [if_neg h47])
      · refine Y_iload_3 i_X2_soonestRiseOf_50 ?_
        refine X_goto i_X2_soonestRiseOf_51 (tgt := 59) rfl ?_
        refine X_iret i_X2_soonestRiseOf_59 rfl ?_
        exact zre (by rw [if_pos h47])
    | succ n ih =>
      intro j lx C hg 
      have hlim := sS_in (lim := 100) hnn (by omega) j
      have hle := sWr_le (M 0) x (j : Int)
      refine Y_iload_5 i_X2_soonestRiseOf_10 ?_
      refine X_bipush i_X2_soonestRiseOf_12 (by decide +kernel) ?_
      refine X_icmp_gt i_X2_soonestRiseOf_14 (tgt := 46) rfl ⟨by omega, by omega⟩ ⟨by omega, by omega⟩ (fun h14 => by exfalso; omega) (fun h14 => ?_)
      refine Y_aload_0 i_X2_soonestRiseOf_17 ?_
      refine Y_iload_1 i_X2_soonestRiseOf_18 ?_
      refine Y_iload_5 i_X2_soonestRiseOf_19 ?_
      refine Y_callVe (k' := kX2_whenGoneRisingBehind) i_X2_soonestRiseOf_21 l_X2_64 m_X2_whenGoneRisingBehind (c_X2_whenGoneRisingBehind (m := (j : Int)) rfl hA x0 x1 (by omega) (by omega)) rfl rfl rfl rfl rfl ?_
      intro C1
      refine Y_istore_6 i_X2_soonestRiseOf_24 rfl rfl ?_
      refine Y_iload_6 i_X2_soonestRiseOf_26 ?_
      refine Y_iload_4 i_X2_soonestRiseOf_28 ?_
      refine X_icmp_ge i_X2_soonestRiseOf_30 (tgt := 40) rfl ⟨by omega, by omega⟩ ⟨by omega, by omega⟩ (fun h30 => ?_) (fun h30 => ?_)
      · refine Y_iinc_5 i_X2_soonestRiseOf_40 rfl rfl ?_
        refine X_goto i_X2_soonestRiseOf_43 (tgt := 10) rfl ?_
        exact X_eq (ih (j + 1) _ _ (by omega)) (by simp [sS, sW, Int.not_lt.mpr h30]; rfl) rfl rfl
      · refine Y_iload_6 i_X2_soonestRiseOf_33 ?_
        refine Y_istore_4 i_X2_soonestRiseOf_35 rfl rfl ?_
        refine Y_iload_5 i_X2_soonestRiseOf_37 ?_
        refine Y_istore_3 i_X2_soonestRiseOf_39 rfl rfl ?_
        refine Y_iinc_5 i_X2_soonestRiseOf_40 rfl rfl ?_
        refine X_goto i_X2_soonestRiseOf_43 (tgt := 10) rfl ?_
        exact X_eq (ih (j + 1) _ _ (by omega)) (by simp [sS, sW, Int.not_le.mp h30]; rfl) rfl rfl
  refine X_bipush i_X2_soonestRiseOf_0 (by decide +kernel) ?_
  refine Y_istore_3 i_X2_soonestRiseOf_2 rfl rfl ?_
  refine X_bipush i_X2_soonestRiseOf_3 (by decide +kernel) ?_
  refine Y_istore_4 i_X2_soonestRiseOf_5 rfl rfl ?_
  refine X_iconst i_X2_soonestRiseOf_7 ?_
  refine Y_istore_5 i_X2_soonestRiseOf_8 rfl rfl ?_
  exact loop 31 0 _ _ (by omega)
set_option maxRecDepth 100000 in
theorem c_X2_soonestCaller {M : zMem} {A B : zAft} (e : M 0 = A) (hA : zOk 999 A) (hr : A 6 0 < 6) {w : Int} (hw : zR w) : zCt kX2_soonestCaller 5 [.ref 32, .int (zii w)] ((zs M 1 B)) (zRetE (.int (zii (if w = 0 then sW 100 (fun k => (sWh (sCome A (k : Int) 5 5) (A 6 0) : Int)) (-9) 6 else sN (sS 100 (fun k => (sWh (sCome A (k : Int) 5 5) (A 6 0) : Int)) 6)))) M 1) := by
  subst e
  have h6 := hA.1
  unfold zH at h6
  have hw1 := hw.1
  have hw2 := hw.2
  have hnn : ∀ k : Nat, 0 ≤ (sWh (sCome (M 0) (k : Int) 5 5) (M 0 6 0) : Int) := fun m => Int.natCast_nonneg _
  refine zMet (by decide) (Nat.le_of_ble_eq_true rfl) ?_
  show zX kX2_soonestCaller 5 0 [some (.ref 32), some (.int (zii w)), none, none, none, none] [] _ _
  have loop : ∀ (n : Nat) (j : Nat) (lx : Option Value) (C : zAft), j + n = 6 → zX kX2_soonestCaller 5 9 [some (.ref 32), some (.int (zii w)), some (.int (zii (sW 100 (fun k => (sWh (sCome (M 0) (k : Int) 5 5) ((M 0) 6 0) : Int)) (-9) j))), some (.int (zii (sS 100 (fun k => (sWh (sCome (M 0) (k : Int) 5 5) ((M 0) 6 0) : Int)) j))), some (.int (zii j)), lx] [] (zs M 1 C) (zRetE (.int (zii (if w = 0 then sW 100 (fun k => (sWh (sCome (M 0) (k : Int) 5 5) ((M 0) 6 0) : Int)) (-9) 6 else sN (sS 100 (fun k => (sWh (sCome (M 0) (k : Int) 5 5) ((M 0) 6 0) : Int)) 6)))) M 1) := by
    intro n
    induction n with
    | zero =>
      intro j lx C hg 
      obtain rfl : j = 6 := by omega
      have hlim := sS_in (lim := 100) hnn (by omega) 6
      refine Y_iload_4 i_X2_soonestCaller_9 ?_
      refine X_bipush i_X2_soonestCaller_11 (by decide +kernel) ?_
      refine X_icmp_ge i_X2_soonestCaller_13 (tgt := 65) rfl ⟨by omega, by omega⟩ ⟨by omega, by omega⟩ (fun h13 => ?_) (fun h13 => by exfalso; omega)
      refine Y_iload_1 i_X2_soonestCaller_65 ?_
      refine Y_if_ne i_X2_soonestCaller_66 (tgt := 73) rfl ⟨by omega, by omega⟩ (fun h66 => ?_) (fun h66 => ?_)
      · refine Y_iload_3 i_X2_soonestCaller_73 ?_
        refine Y_callS (k' := kX9_noneIfNever) i_X2_soonestCaller_74 l_X2_61 m_X9_noneIfNever (c_X9_noneIfNever ⟨by omega, by omega⟩) rfl rfl rfl rfl ?_
        refine X_iret i_X2_soonestCaller_77 rfl ?_
        exact zre (by rw [if_neg h66])
      · refine Y_iload_2 i_X2_soonestCaller_69 ?_
        refine X_goto i_X2_soonestCaller_70 (tgt := 77) rfl ?_
        refine X_iret i_X2_soonestCaller_77 rfl ?_
        exact zre (by rw [if_pos h66])
    | succ n ih =>
      intro j lx C hg 
      have hlim := sS_in (lim := 100) hnn (by omega) j
      have hle := sWh_le (sCome (M 0) (j : Int) 5 5) (M 0 6 0)
      have hB := sCome_ok hA hr (x := (j : Int)) (y := 5) (z := 5) (by omega) (by omega) (by omega)
      refine Y_iload_4 i_X2_soonestCaller_9 ?_
      refine X_bipush i_X2_soonestCaller_11 (by decide +kernel) ?_
      refine X_icmp_ge i_X2_soonestCaller_13 (tgt := 65) rfl ⟨by omega, by omega⟩ ⟨by omega, by omega⟩ (fun h13 => by exfalso; omega) (fun h13 => ?_)
      refine Y_aload_0 i_X2_soonestCaller_16 ?_
      refine X_getR i_X2_soonestCaller_17 f_X2_19 rfl ?_
      refine Y_aload_0 i_X2_soonestCaller_20 ?_
      refine X_getR i_X2_soonestCaller_21 f_X2_15 rfl ?_
      refine Y_callVv (k' := kX0_copyFrom) i_X2_soonestCaller_24 l_X2_34 m_X0_copyFrom (c_X0_copyFrom (i := 1) (j := 0) (by omega) (by omega) rfl) rfl rfl rfl rfl rfl ?_
      refine Y_aload_0 i_X2_soonestCaller_27 ?_
      refine X_getR i_X2_soonestCaller_28 f_X2_19 rfl ?_
      refine Y_aload_0 i_X2_soonestCaller_31 ?_
      refine X_getR i_X2_soonestCaller_32 f_X2_19 rfl ?_
      refine Y_iload_4 i_X2_soonestCaller_35 ?_
      refine X_iconst i_X2_soonestCaller_37 ?_
      refine X_iconst i_X2_soonestCaller_38 ?_
      refine Y_callV (k' := kX0_come) i_X2_soonestCaller_39 l_X2_103 m_X0_come (c_X0_come (i := 1) (by omega) hA.1 hr) rfl rfl rfl rfl rfl ?_
      refine Y_callV (k' := kX0_passTillGone) i_X2_soonestCaller_42 l_X2_106 m_X0_passTillGone (c_X0_passTillGone (i := 1) (by omega) hB (by omega) (by omega) hr) rfl rfl rfl rfl rfl ?_
      change zX _ _ _ _ (.int (zii (sWh (sCome (M 0) (j : Int) 5 5) (M 0 6 0) : Nat)) :: _) _ _
      refine Y_istore_5 i_X2_soonestCaller_45 rfl rfl ?_
      refine Y_iload_5 i_X2_soonestCaller_47 ?_
      refine Y_iload_3 i_X2_soonestCaller_49 ?_
      refine X_icmp_ge i_X2_soonestCaller_50 (tgt := 59) rfl ⟨by omega, by omega⟩ ⟨by omega, by omega⟩ (fun h50 => ?_) (fun h50 => ?_)
      · refine Y_iinc_4 i_X2_soonestCaller_59 rfl rfl ?_
        refine X_goto i_X2_soonestCaller_62 (tgt := 9) rfl ?_
        exact X_eq (ih (j + 1) _ _ (by omega)) (by simp [sS, sW, Int.not_lt.mpr h50]; rfl) rfl rfl
      · refine Y_iload_5 i_X2_soonestCaller_53 ?_
        refine Y_istore_3 i_X2_soonestCaller_55 rfl rfl ?_
        refine Y_iload_4 i_X2_soonestCaller_56 ?_
        refine Y_istore_2 i_X2_soonestCaller_58 rfl rfl ?_
        refine Y_iinc_4 i_X2_soonestCaller_59 rfl rfl ?_
        refine X_goto i_X2_soonestCaller_62 (tgt := 9) rfl ?_
        exact X_eq (ih (j + 1) _ _ (by omega)) (by simp [sS, sW, Int.not_le.mp h50]; rfl) rfl rfl
  refine X_bipush i_X2_soonestCaller_0 (by decide +kernel) ?_
  refine Y_istore_2 i_X2_soonestCaller_2 rfl rfl ?_
  refine X_bipush i_X2_soonestCaller_3 (by decide +kernel) ?_
  refine Y_istore_3 i_X2_soonestCaller_5 rfl rfl ?_
  refine X_iconst i_X2_soonestCaller_6 ?_
  refine Y_istore_4 i_X2_soonestCaller_7 rfl rfl ?_
  exact loop 6 0 _ _ (by omega)
set_option maxRecDepth 100000 in
theorem c_X2_soonestAs {M : zMem} {A B : zAft} (e : M 0 = A) (hA : zOk 999 A) {x : Int} (x0 : 0 ≤ x) (x1 : x < 6) {w : Int} {t : Nat} (hw : (w = 1 ∧ t = 9) ∨ (w = 2 ∧ t = 30)) : zCt kX2_soonestAs 5 [.ref 32, .int (zii x), .int (zii w), .int (zii t)] ((zs M 1 B)) (zRetE (.int (zii (sW 100 (fun v => (sWh (sRe A x w (v : Int)) x : Int)) (-9) (t + 1)))) M 1) := by
  subst e
  have h6 := hA.1
  unfold zH at h6
  have hnn : ∀ v : Nat, 0 ≤ (sWh (sRe (M 0) x w (v : Int)) x : Int) := fun m => Int.natCast_nonneg _
  refine zMet (by decide) (Nat.le_of_ble_eq_true rfl) ?_
  show zX kX2_soonestAs 5 0 [some (.ref 32), some (.int (zii x)), some (.int (zii w)), some (.int (zii t)), none, none, none, none] [] _ _
  have loop : ∀ (n : Nat) (j : Nat) (lx : Option Value) (C : zAft), j + n = t + 1 → zX kX2_soonestAs 5 11 [some (.ref 32), some (.int (zii x)), some (.int (zii w)), some (.int (zii t)), some (.int (zii (sW 100 (fun v => (sWh (sRe (M 0) x w (v : Int)) x : Int)) (-9) j))), some (.int (zii (sS 100 (fun v => (sWh (sRe (M 0) x w (v : Int)) x : Int)) j))), some (.int (zii j)), lx] [] (zs M 1 C) (zRetE (.int (zii (sW 100 (fun v => (sWh (sRe (M 0) x w (v : Int)) x : Int)) (-9) (t + 1)))) M 1) := by
    intro n
    induction n with
    | zero =>
      intro j lx C hg 
      obtain rfl : j = t + 1 := by omega
      refine Y_iload_6 i_X2_soonestAs_11 ?_
      refine Y_iload_3 i_X2_soonestAs_13 ?_
      refine X_icmp_gt i_X2_soonestAs_14 (tgt := 70) rfl ⟨by omega, by omega⟩ ⟨by omega, by omega⟩ (fun h14 => ?_) (fun h14 => by exfalso; omega)
      refine Y_iload_4 i_X2_soonestAs_70 ?_
      refine X_iret i_X2_soonestAs_72 rfl ?_
      exact zre rfl
    | succ n ih =>
      intro j lx C hg 
      have hlim := sS_in (lim := 100) hnn (by omega) j
      have hle := sWh_le (sRe (M 0) x w (j : Int)) x
      have hB := sRe_ok hA (w := w) (v := (j : Int)) x0 x1 ⟨by omega, by omega, by omega, by omega⟩
      refine Y_iload_6 i_X2_soonestAs_11 ?_
      refine Y_iload_3 i_X2_soonestAs_13 ?_
      refine X_icmp_gt i_X2_soonestAs_14 (tgt := 70) rfl ⟨by omega, by omega⟩ ⟨by omega, by omega⟩ (fun h14 => by exfalso; omega) (fun h14 => ?_)
      refine Y_aload_0 i_X2_soonestAs_17 ?_
      refine X_getR i_X2_soonestAs_18 f_X2_19 rfl ?_
      refine Y_aload_0 i_X2_soonestAs_21 ?_
      refine X_getR i_X2_soonestAs_22 f_X2_15 rfl ?_
      refine Y_callVv (k' := kX0_copyFrom) i_X2_soonestAs_25 l_X2_34 m_X0_copyFrom (c_X0_copyFrom (i := 1) (j := 0) (by omega) (by omega) rfl) rfl rfl rfl rfl rfl ?_
      refine Y_aload_0 i_X2_soonestAs_28 ?_
      refine X_getR i_X2_soonestAs_29 f_X2_19 rfl ?_
      refine Y_iload_1 i_X2_soonestAs_32 ?_
      refine Y_iload_2 i_X2_soonestAs_33 ?_
      refine Y_iload_6 i_X2_soonestAs_34 ?_
      refine Y_callVv (k' := kX0_remake) i_X2_soonestAs_36 l_X2_109 m_X0_remake (c_X0_remake (i := 1) (by omega) x0 x1 ⟨by omega, by omega⟩) rfl rfl rfl rfl rfl ?_
      refine Y_aload_0 i_X2_soonestAs_39 ?_
      refine X_getR i_X2_soonestAs_40 f_X2_19 rfl ?_
      refine Y_iload_1 i_X2_soonestAs_43 ?_
      refine Y_callV (k' := kX0_passTillGone) i_X2_soonestAs_44 l_X2_106 m_X0_passTillGone (c_X0_passTillGone (i := 1) (by omega) hB (by omega) x0 x1) rfl rfl rfl rfl rfl ?_
      change zX _ _ _ _ (.int (zii (sWh (sRe (M 0) x w (j : Int)) x : Nat)) :: _) _ _
      refine Y_istore_7 i_X2_soonestAs_47 rfl rfl ?_
      refine Y_iload_7 i_X2_soonestAs_49 ?_
      refine Y_iload_5 i_X2_soonestAs_51 ?_
      refine X_icmp_ge i_X2_soonestAs_53 (tgt := 64) rfl ⟨by omega, by omega⟩ ⟨by omega, by omega⟩ (fun h53 => ?_) (fun h53 => ?_)
      · refine Y_iinc_6 i_X2_soonestAs_64 rfl rfl ?_
        refine X_goto i_X2_soonestAs_67 (tgt := 11) rfl ?_
        exact X_eq (ih (j + 1) _ _ (by omega)) (by simp [sS, sW, Int.not_lt.mpr h53]; rfl) rfl rfl
      · refine Y_iload_7 i_X2_soonestAs_56 ?_
        refine Y_istore_5 i_X2_soonestAs_58 rfl rfl ?_
        refine Y_iload_6 i_X2_soonestAs_60 ?_
        refine Y_istore_4 i_X2_soonestAs_62 rfl rfl ?_
        refine Y_iinc_6 i_X2_soonestAs_64 rfl rfl ?_
        refine X_goto i_X2_soonestAs_67 (tgt := 11) rfl ?_
        exact X_eq (ih (j + 1) _ _ (by omega)) (by simp [sS, sW, Int.not_le.mp h53]; rfl) rfl rfl
  refine X_bipush i_X2_soonestAs_0 (by decide +kernel) ?_
  refine Y_istore_4 i_X2_soonestAs_2 rfl rfl ?_
  refine X_bipush i_X2_soonestAs_4 (by decide +kernel) ?_
  refine Y_istore_5 i_X2_soonestAs_6 rfl rfl ?_
  refine X_iconst i_X2_soonestAs_8 ?_
  refine Y_istore_6 i_X2_soonestAs_9 rfl rfl ?_
  exact loop (t + 1) 0 _ _ (by omega)
def sHo (A : zAft) (c r : Int) : zAft := zwr (zwr A 6 1 c) 6 2 r
/-- 4 times the cups and the rule, from 4 on: k is 4 less -/
def sHk (A : zAft) (t : Nat) : Nat → Int := fun k => if sMany A 2 ≤ ((k / 4 : Nat) : Int) + 1 then sTh (sRun (sHo A (((k / 4 : Nat) : Int) + 1) ((k % 4 : Nat) : Int)) t) (sG A) else 181
def sHb (x : Int) : Int := if x < 0 then -9 else 10 * (x % 4) + (x / 4 + 1)
theorem sHo_ok {A : zAft} (h : zOk 999 A) {c r : Int} (hc : 1 ≤ c ∧ c ≤ 5) (hr : 0 ≤ r ∧ r ≤ 3) : zOk 999 (sHo A c r) := zOk_6 (zOk_6 h (Or.inl ⟨rfl, hc.1, hc.2⟩)) (Or.inr ⟨rfl, hr.1, hr.2⟩)
theorem sHo_G (A : zAft) (c r : Int) : sG (sHo A c r) = sG A := by unfold sG sHo; rw [zwr_i (by decide), zwr_i (by decide)]
theorem sHk_in {A : zAft} (h : zOk 999 A) (t k : Nat) (hk : k < 20) : 0 ≤ sHk A t k ∧ (sMany A 2 ≤ ((k / 4 : Nat) : Int) + 1 → sHk A t k ≤ 180) := by
  unfold sHk
  have hB := sHo_ok h (c := ((k / 4 : Nat) : Int) + 1) (r := ((k % 4 : Nat) : Int)) (by omega) (by omega)
  have h1 := sTh_in (sRun_ok hB t).2 (sG A) (sG_le h.1).1
  have h2 := (sG_le h.1).1
  split
  next hm => exact ⟨h1.1, fun _ => by omega⟩
  next hm => exact ⟨by omega, fun z => absurd z hm⟩
theorem sS_le (lim : Int) (f : Nat → Int) : ∀ n, sS lim f n ≤ lim := by
  intro n
  induction n with
  | zero => exact Int.le_refl _
  | succ n ih => simp only [sS]; split <;> omega
theorem sS_ge (f : Nat → Int) : ∀ n, (∀ k, k < n → 0 ≤ f k) → 0 ≤ sS 181 f n := by
  intro n
  induction n with
  | zero => intro _; simp [sS]
  | succ n ih =>
    intro h
    have h1 := ih (fun k hk => h k (by omega))
    have h2 := h n (by omega)
    simp only [sS]; split <;> omega
theorem sHb_at {c r : Nat} (hr : r < 4) : sHb (4 * (c : Int) + (r : Int)) = 10 * (r : Int) + ((c : Int) + 1) := by
  unfold sHb; rw [if_neg (by omega)]; omega
theorem sS_skip {lim : Int} {f : Nat → Int} : ∀ n m, n ≤ m → (∀ k, n ≤ k → k < m → lim ≤ f k) → sS lim f m = sS lim f n ∧ ∀ b, sW lim f b m = sW lim f b n := by
  intro n m
  induction m with
  | zero => intro h _; rw [show n = 0 by omega]; exact ⟨rfl, fun _ => rfl⟩
  | succ m ih =>
    intro h h2
    by_cases e : n = m + 1
    · subst e; exact ⟨rfl, fun _ => rfl⟩
    · have h3 := ih (by omega) (fun k a b => h2 k a (by omega))
      have h4 := h2 m (by omega) (by omega)
      have h5 := sS_le lim f m
      refine ⟨?_, fun b => ?_⟩
      · simp only [sS]; rw [if_neg (by omega)]; exact h3.1
      · simp only [sW]; rw [if_neg (by omega)]; exact h3.2 b
set_option maxRecDepth 100000 in
theorem c_X2_leastThirst {M : zMem} {A B : zAft} (e : M 0 = A) (hA : zOk 999 A) {t : Nat} (ht : t ≤ 99) : zCt kX2_leastThirst 5 [.ref 32, .int (zii t)] ((zs M 1 B)) (zRetE (.int (zii (sHb (sW 181 (sHk A t) (-9) 20)))) M 1) := by
  subst e
  have h6 := hA.1
  unfold zH at h6
  have hG := sG_le hA.1
  have hmi := sMany_in hA.1 2
  refine zMet (by decide) (Nat.le_of_ble_eq_true rfl) ?_
  show zX kX2_leastThirst 5 0 [some (.ref 32), some (.int (zii t)), none, none, none, none] [] _ _
  have loop : ∀ (n : Nat) (c : Nat) (lx : Option Value) (C : zAft), c + n = 5 → sMany (M 0) 2 ≤ (c : Int) + 1 → zX kX2_leastThirst 5 21 [some (.ref 32), some (.int (zii t)), some (.int (zii (sHb (sW 181 (sHk (M 0) t) (-9) (4 * c))))), some (.int (zii (sS 181 (sHk (M 0) t) (4 * c)))), some (.int (zii ((c : Int) + 1))), lx] [] (zs M 1 C) (zRetE (.int (zii (sHb (sW 181 (sHk (M 0) t) (-9) 20)))) M 1) := by
    intro n
    induction n with
    | zero =>
      intro c lx C hg hm
      obtain rfl : c = 5 := by omega
      refine Y_iload_4 i_X2_leastThirst_21 ?_
      refine X_iconst i_X2_leastThirst_23 ?_
      refine X_icmp_gt i_X2_leastThirst_24 (tgt := 116) rfl ⟨by omega, by omega⟩ ⟨by omega, by omega⟩ (fun h24 => ?_) (fun h24 => by exfalso; omega)
      refine Y_iload_2 i_X2_leastThirst_116 ?_
      refine X_iret i_X2_leastThirst_117 rfl ?_
      exact zre rfl
    | succ n ih =>
      intro c lx C hg hm
      have inner : ∀ (m : Nat) (r : Nat) (C : zAft), r + m = 4 → zX kX2_leastThirst 5 30 [some (.ref 32), some (.int (zii t)), some (.int (zii (sHb (sW 181 (sHk (M 0) t) (-9) (4 * c + r))))), some (.int (zii (sS 181 (sHk (M 0) t) (4 * c + r)))), some (.int (zii ((c : Int) + 1))), some (.int (zii r))] [] (zs M 1 C) (zRetE (.int (zii (sHb (sW 181 (sHk (M 0) t) (-9) 20)))) M 1) := by
        intro m
        induction m with
        | zero =>
          intro r C hg 
          obtain rfl : r = 4 := by omega
          refine Y_iload_5 i_X2_leastThirst_30 ?_
          refine X_iconst i_X2_leastThirst_32 ?_
          refine X_icmp_ge i_X2_leastThirst_33 (tgt := 110) rfl ⟨by omega, by omega⟩ ⟨by omega, by omega⟩ (fun h33 => ?_) (fun h33 => by exfalso; omega)
          refine Y_iinc_4 i_X2_leastThirst_110 rfl rfl ?_
          refine X_goto i_X2_leastThirst_113 (tgt := 21) rfl ?_
          exact X_eq (ih (c + 1) _ _ (by omega) (by omega)) (by simp [Nat.mul_add]; rfl) rfl rfl
        | succ m ih2 =>
          intro r C hg 
          have hB := sHo_ok hA (c := (c : Int) + 1) (r := (r : Int)) (by omega) (by omega)
          have hR := sRun_ok hB t
          have hth := sTh_in hR.2 (sG (M 0)) hG.1
          have hk := sHk_in hA t (4 * c + r) (by omega)
          have hkv : sHk (M 0) t (4 * c + r) = sTh (sRun (sHo (M 0) ((c : Int) + 1) (r : Int)) t) (sG (M 0)) := by
            unfold sHk
            rw [show (4 * c + r) / 4 = c by omega, show (4 * c + r) % 4 = r by omega, if_pos (by omega)]
          have hlim := sS_le 181 (sHk (M 0) t) (4 * c + r)
          have hlm2 := sS_ge (sHk (M 0) t) (4 * c + r) (fun k hk9 => (sHk_in hA t k (by omega)).1)
          have hgS : sG (sRun (sHo (M 0) ((c : Int) + 1) (r : Int)) t) = sG (M 0) := by rw [sRun_G, sHo_G]
          refine Y_iload_5 i_X2_leastThirst_30 ?_
          refine X_iconst i_X2_leastThirst_32 ?_
          refine X_icmp_ge i_X2_leastThirst_33 (tgt := 110) rfl ⟨by omega, by omega⟩ ⟨by omega, by omega⟩ (fun h33 => by exfalso; omega) (fun h33 => ?_)
          refine Y_aload_0 i_X2_leastThirst_36 ?_
          refine X_getR i_X2_leastThirst_37 f_X2_19 rfl ?_
          refine Y_aload_0 i_X2_leastThirst_40 ?_
          refine X_getR i_X2_leastThirst_41 f_X2_15 rfl ?_
          refine Y_callVv (k' := kX0_copyFrom) i_X2_leastThirst_44 l_X2_34 m_X0_copyFrom (c_X0_copyFrom (i := 1) (j := 0) (by omega) (by omega) rfl) rfl rfl rfl rfl rfl ?_
          refine Y_aload_0 i_X2_leastThirst_47 ?_
          refine X_getR i_X2_leastThirst_48 f_X2_19 rfl ?_
          refine Y_iload_4 i_X2_leastThirst_51 ?_
          refine Y_putI i_X2_leastThirst_53 f_X2_38 rfl t_0_7 (zp0 _ _ _ _ _ _) ?_
          refine Y_aload_0 i_X2_leastThirst_56 ?_
          refine X_getR i_X2_leastThirst_57 f_X2_19 rfl ?_
          refine Y_iload_5 i_X2_leastThirst_60 ?_
          refine Y_putI i_X2_leastThirst_62 f_X2_45 rfl t_0_8 (zp0 _ _ _ _ _ _) ?_
          refine Y_aload_0 i_X2_leastThirst_65 ?_
          refine X_getR i_X2_leastThirst_66 f_X2_19 rfl ?_
          refine Y_iload_1 i_X2_leastThirst_69 ?_
          refine Y_callVv (k' := kX0_pass) i_X2_leastThirst_70 l_X2_48 m_X0_pass (c_X0_pass (i := 1) (by omega) hB (by omega) (by omega)) rfl rfl rfl rfl rfl ?_
          refine Y_aload_0 i_X2_leastThirst_73 ?_
          refine X_getR i_X2_leastThirst_74 f_X2_19 rfl ?_
          refine Y_callV (k' := kX0_wholeThirst) i_X2_leastThirst_77 l_X2_113 m_X0_wholeThirst (c_X0_wholeThirst (i := 1) (by omega) (zs_self _ _ _) hR) rfl rfl rfl rfl rfl ?_
          rw [hgS, ← hkv]
          refine Y_iload_3 i_X2_leastThirst_80 ?_
          refine X_icmp_lt i_X2_leastThirst_81 (tgt := 87) rfl ⟨by omega, by omega⟩ ⟨by omega, by omega⟩ (fun h81 => ?_) (fun h81 => ?_)
          · refine Y_aload_0 i_X2_leastThirst_87 ?_
            refine X_getR i_X2_leastThirst_88 f_X2_19 rfl ?_
            refine Y_callV (k' := kX0_wholeThirst) i_X2_leastThirst_91 l_X2_113 m_X0_wholeThirst (c_X0_wholeThirst (i := 1) (by omega) (zs_self _ _ _) hR) rfl rfl rfl rfl rfl ?_
            rw [hgS, ← hkv]
            refine Y_istore_3 i_X2_leastThirst_94 rfl rfl ?_
            refine X_bipush i_X2_leastThirst_95 (by decide +kernel) ?_
            refine Y_iload_5 i_X2_leastThirst_97 ?_
            refine X_imul i_X2_leastThirst_99 ?_
            refine Y_iload_4 i_X2_leastThirst_100 ?_
            refine X_iadd i_X2_leastThirst_102 ?_
            refine Y_istore_2 i_X2_leastThirst_103 rfl rfl ?_
            refine Y_iinc_5 i_X2_leastThirst_104 rfl rfl ?_
            refine X_goto i_X2_leastThirst_107 (tgt := 30) rfl ?_
            exact X_eq (ih2 (r + 1) _ (by omega)) (by rw [show 4 * c + (r + 1) = 4 * c + r + 1 by omega]; simp [sS, sW, h81, sHb_at (show r < 4 by omega)]) rfl rfl
          · refine X_goto i_X2_leastThirst_84 (tgt := 104) rfl ?_
            refine Y_iinc_5 i_X2_leastThirst_104 rfl rfl ?_
            refine X_goto i_X2_leastThirst_107 (tgt := 30) rfl ?_
            exact X_eq (ih2 (r + 1) _ (by omega)) (by rw [show 4 * c + (r + 1) = 4 * c + r + 1 by omega]; simp [sS, sW, h81]) rfl rfl
      refine Y_iload_4 i_X2_leastThirst_21 ?_
      refine X_iconst i_X2_leastThirst_23 ?_
      refine X_icmp_gt i_X2_leastThirst_24 (tgt := 116) rfl ⟨by omega, by omega⟩ ⟨by omega, by omega⟩ (fun h24 => by exfalso; omega) (fun h24 => ?_)
      refine X_iconst i_X2_leastThirst_27 ?_
      refine Y_istore_5 i_X2_leastThirst_28 rfl rfl ?_
      exact inner 4 0 _ (by omega)
  refine X_bipush i_X2_leastThirst_0 (by decide +kernel) ?_
  refine Y_istore_2 i_X2_leastThirst_2 rfl rfl ?_
  refine X_sipush i_X2_leastThirst_3 (by decide +kernel) ?_
  refine Y_istore_3 i_X2_leastThirst_6 rfl rfl ?_
  refine Y_aload_0 i_X2_leastThirst_7 ?_
  refine X_getR i_X2_leastThirst_8 f_X2_15 rfl ?_
  refine X_iconst i_X2_leastThirst_11 ?_
  refine Y_callV (k' := kX0_howMany) i_X2_leastThirst_12 l_X2_22 m_X0_howMany (c_X0_howMany (i := 0) (by omega) (zs_ne (by decide)) hA (zR_lit rfl)) rfl rfl rfl rfl rfl ?_
  refine X_iconst i_X2_leastThirst_15 ?_
  refine X_mmax i_X2_leastThirst_16 lm_X2_28 m_J9_max_7cf53 ⟨by omega, by omega⟩ ⟨by omega, by omega⟩ rfl rfl ?_
  have hmx : (if (1 : Int) ≤ sMany (M 0) 2 then sMany (M 0) 2 else 1) = ((((if (1 : Int) ≤ sMany (M 0) 2 then sMany (M 0) 2 else 1) - 1).toNat : Nat) : Int) + 1 := by split <;> omega
  have hmy : (((if (1 : Int) ≤ sMany (M 0) 2 then sMany (M 0) 2 else 1) - 1).toNat : Int) ≤ 5 ∧ sMany (M 0) 2 ≤ ((((if (1 : Int) ≤ sMany (M 0) 2 then sMany (M 0) 2 else 1) - 1).toNat : Nat) : Int) + 1 ∧ ∀ q : Nat, q < ((if (1 : Int) ≤ sMany (M 0) 2 then sMany (M 0) 2 else 1) - 1).toNat → (q : Int) + 1 < sMany (M 0) 2 := by split <;> (refine ⟨by omega, by omega, fun q hq => by omega⟩)
  rw [hmx]
  generalize ((if (1 : Int) ≤ sMany (M 0) 2 then sMany (M 0) 2 else 1) - 1).toNat = J at hmy ⊢
  refine Y_istore_4 i_X2_leastThirst_19 rfl rfl ?_
  have hsk := sS_skip (lim := 181) (f := sHk (M 0) t) 0 (4 * J) (by omega) (fun k _ hk => by
    unfold sHk
    rw [if_neg (by have := hmy.2.2 (k / 4) (by omega); omega)]
    exact Int.le_refl _)
  exact X_eq (loop (5 - J) J _ _ (by omega) hmy.2.1) (by rw [hsk.1, hsk.2]; rfl) rfl rfl
