set_option maxRecDepth 100000 in
theorem c_X10_next {M : zMem} {H L : zAft} (e : M 12 = H) (e2 : M 11 = L) (hL : zLt L) {x : Int} (hx : H 3 0 = x) (x0 : 0 ≤ x) (x1 : x ≤ 1000) : zCt kX10_next 0 [.ref 38] M (zRet (.int (zii (sAt L x))) M) := by
  subst e
  subst e2
  subst hx
  have hL1 := hL.1
  refine zMet (by decide) (Nat.le_of_ble_eq_true rfl) ?_
  show zX kX10_next 0 0 [some (.ref 38)] [] _ _
  refine Y_aload_0 i_X10_next_0 ?_
  refine Y_getI i_X10_next_1 f_X10_79 rfl rfl ?_
  refine Y_aload_0 i_X10_next_4 ?_
  refine Y_getI i_X10_next_5 f_X10_72 rfl rfl ?_
  refine X_icmp_ge i_X10_next_8 (tgt := 23) rfl ⟨by omega, by omega⟩ ⟨by omega, by omega⟩ (fun h8 => ?_) (fun h8 => ?_)
  · refine X_iconst i_X10_next_23 ?_
    refine X_iret i_X10_next_24 rfl ?_
    exact zri (by unfold sAt; rw [if_neg (by omega)])
  · refine Y_aload_0 i_X10_next_11 ?_
    refine X_getR i_X10_next_12 f_X10_31 rfl ?_
    refine Y_aload_0 i_X10_next_15 ?_
    refine Y_getI i_X10_next_16 f_X10_79 rfl rfl ?_
    refine Y_iald i_X10_next_19 rfl ⟨by omega, by omega⟩ rfl rfl ?_
    refine X_goto i_X10_next_20 (tgt := 24) rfl ?_
    refine X_iret i_X10_next_24 rfl ?_
    exact zri (by unfold sAt; rw [if_pos (by omega)])
set_option maxRecDepth 100000 in
theorem c_X10_digits1 {M : zMem} {H L : zAft} (hL2 : M 11 = L) (hL : zLt L) {x y : Int} (hx : H 3 0 = x) (x0 : 0 ≤ x) (x1 : x ≤ 900) (y0 : 0 ≤ y) (y1 : y < 144) : zCt kX10_readsDigits 1 [.ref 38, .int (zii y), .int (zii 1)] ((zs M 12 H)) (fun r M9 => r = some (.int (zii (if sDk L x 1 = 1 then 1 else 0))) ∧ ∃ H9, (H9 0 = H 0 ∧ H9 1 = H 1 ∧ H9 3 1 = H 3 1 ∧ H9 3 0 = x + (sDk L x 1 : Nat) ∧ (∀ i : Int, i ≠ y → H9 2 i = H 2 i) ∧ (sDk L x 1 = 1 → H9 2 y = sDi L x)) ∧ M9 = zs M 12 H9) := by
  have a0 := sAt_in hL x
  have a1 := sAt_in hL (x + 1)
  have a2 := sAt_in hL (x + 0)
  have b0 : sAt L (x + 0) = sAt L x := by rw [Int.add_zero]
  refine zMet (by decide) (Nat.le_of_ble_eq_true rfl) ?_
  show zX kX10_readsDigits 1 0 [some (.ref 38), some (.int (zii y)), some (.int (zii 1)), none, none] [] _ _
  refine X_iconst i_X10_readsDigits_0 ?_
  refine Y_istore_3 i_X10_readsDigits_1 rfl rfl ?_
  refine X_iconst i_X10_readsDigits_2 ?_
  refine Y_istore_4 i_X10_readsDigits_3 rfl rfl ?_
  
  refine Y_iload_4 i_X10_readsDigits_5 ?_
  refine Y_iload_2 i_X10_readsDigits_7 ?_
  refine X_icmp_ge i_X10_readsDigits_8 (tgt := 56) rfl ⟨by omega, by omega⟩ ⟨by omega, by omega⟩ (fun h8 => by exfalso; omega) (fun h8 => ?_)
  refine Y_aload_0 i_X10_readsDigits_11 ?_
  refine Y_callV (k' := kX10_next) i_X10_readsDigits_12 l_X10_82 m_X10_next (c_X10_next (x := x + 0) (zs_self _ _ _) (by first | exact hL2 | (rw [zs_ne (by decide)]; exact hL2)) hL (by first | omega | (rw [zr0]; omega) | (rw [zr0, zr0]; omega)) (by omega) (by omega)) rfl rfl rfl rfl rfl ?_
  refine X_bipush i_X10_readsDigits_15 (by decide +kernel) ?_
  refine X_bipush i_X10_readsDigits_17 (by decide +kernel) ?_
  refine Y_callS (k' := kX10_isIn) i_X10_readsDigits_19 l_X10_86 m_X10_isIn (c_X10_isIn ⟨by omega, by omega⟩ (zR_lit rfl) (zR_lit rfl)) rfl rfl rfl rfl ?_
  refine Y_ifq_ne i_X10_readsDigits_22 (tgt := 27) rfl  (fun h22 => ?_) (fun h22 => ?_)
  · 
    refine X_bipush i_X10_readsDigits_27 (by decide +kernel) ?_
    refine Y_iload_3 i_X10_readsDigits_29 ?_
    refine X_imul i_X10_readsDigits_30 ?_
    refine Y_aload_0 i_X10_readsDigits_31 ?_
    refine Y_callV (k' := kX10_next) i_X10_readsDigits_32 l_X10_82 m_X10_next (c_X10_next (x := x + 0) (zs_self _ _ _) (by first | exact hL2 | (rw [zs_ne (by decide)]; exact hL2)) hL (by first | omega | (rw [zr0]; omega) | (rw [zr0, zr0]; omega)) (by omega) (by omega)) rfl rfl rfl rfl rfl ?_
    refine X_iadd i_X10_readsDigits_35 ?_
    refine X_bipush i_X10_readsDigits_36 (by decide +kernel) ?_
    refine X_isub i_X10_readsDigits_38 ?_
    refine Y_istore_3 i_X10_readsDigits_39 rfl rfl ?_
    refine Y_aload_0 i_X10_readsDigits_40 ?_
    refine X_dup i_X10_readsDigits_41 rfl ?_
    refine Y_getI i_X10_readsDigits_42 f_X10_79 rfl (zg0 _ _ _ _ _) ?_
    refine X_iconst i_X10_readsDigits_45 ?_
    refine X_iadd i_X10_readsDigits_46 ?_
    refine Y_putI i_X10_readsDigits_47 f_X10_79 rfl t_7_17 (zp0 _ _ _ _ _ _) ?_
    refine Y_iinc_4 i_X10_readsDigits_50 rfl rfl ?_
    refine X_goto i_X10_readsDigits_53 (tgt := 5) rfl ?_
    
    refine Y_iload_4 i_X10_readsDigits_5 ?_
    refine Y_iload_2 i_X10_readsDigits_7 ?_
    refine X_icmp_ge i_X10_readsDigits_8 (tgt := 56) rfl ⟨by omega, by omega⟩ ⟨by omega, by omega⟩ (fun h8 => ?_) (fun h8 => by exfalso; omega)
    refine Y_aload_0 i_X10_readsDigits_56 ?_
    refine X_getR i_X10_readsDigits_57 f_X10_40 rfl ?_
    refine Y_iload_1 i_X10_readsDigits_60 ?_
    refine Y_iload_3 i_X10_readsDigits_61 ?_
    refine Y_iast i_X10_readsDigits_62 rfl ⟨by omega, by omega⟩ rfl (zp0 _ _ _ _ _ _) ?_
    refine X_iconst i_X10_readsDigits_63 ?_
    refine X_zret i_X10_readsDigits_64 rfl (by omega) ?_
    have hk : sDk L x 1 = 1 := by rw [sDk_1]; repeat (first | omega | split)
    exact ⟨by rw [hk]; rfl, _, ⟨by rw [zwr_row rfl, zwr_row rfl], by rw [zwr_row rfl, zwr_row rfl], by rw [zwr_row rfl, zwr_i (by decide)], by rw [zwr_row rfl, zr0, hk]; omega, fun i hi => by rw [zwr_i hi, zwr_row rfl], fun _ => by rw [zr0]; unfold sDi; omega⟩, rfl⟩
  · refine X_iconst i_X10_readsDigits_25 ?_
    refine X_zret i_X10_readsDigits_26 rfl (by omega) ?_
    have hk : sDk L x 1 = 0 := by rw [sDk_1]; repeat (first | omega | split)
    exact ⟨by rw [hk]; rfl, H, ⟨rfl, rfl, rfl, by rw [hk]; omega, fun i hi => rfl, fun z => by omega⟩, rfl⟩
set_option maxRecDepth 100000 in
theorem c_X10_digits2 {M : zMem} {H L : zAft} (hL2 : M 11 = L) (hL : zLt L) {x y : Int} (hx : H 3 0 = x) (x0 : 0 ≤ x) (x1 : x ≤ 900) (y0 : 0 ≤ y) (y1 : y < 144) : zCt kX10_readsDigits 1 [.ref 38, .int (zii y), .int (zii 2)] ((zs M 12 H)) (fun r M9 => r = some (.int (zii (if sDk L x 2 = 2 then 1 else 0))) ∧ ∃ H9, (H9 0 = H 0 ∧ H9 1 = H 1 ∧ H9 3 1 = H 3 1 ∧ H9 3 0 = x + (sDk L x 2 : Nat) ∧ (∀ i : Int, i ≠ y → H9 2 i = H 2 i) ∧ (sDk L x 2 = 2 → H9 2 y = sD2 L x)) ∧ M9 = zs M 12 H9) := by
  have a0 := sAt_in hL x
  have a1 := sAt_in hL (x + 1)
  have a2 := sAt_in hL (x + 0)
  have b0 : sAt L (x + 0) = sAt L x := by rw [Int.add_zero]
  refine zMet (by decide) (Nat.le_of_ble_eq_true rfl) ?_
  show zX kX10_readsDigits 1 0 [some (.ref 38), some (.int (zii y)), some (.int (zii 2)), none, none] [] _ _
  refine X_iconst i_X10_readsDigits_0 ?_
  refine Y_istore_3 i_X10_readsDigits_1 rfl rfl ?_
  refine X_iconst i_X10_readsDigits_2 ?_
  refine Y_istore_4 i_X10_readsDigits_3 rfl rfl ?_
  
  refine Y_iload_4 i_X10_readsDigits_5 ?_
  refine Y_iload_2 i_X10_readsDigits_7 ?_
  refine X_icmp_ge i_X10_readsDigits_8 (tgt := 56) rfl ⟨by omega, by omega⟩ ⟨by omega, by omega⟩ (fun h8 => by exfalso; omega) (fun h8 => ?_)
  refine Y_aload_0 i_X10_readsDigits_11 ?_
  refine Y_callV (k' := kX10_next) i_X10_readsDigits_12 l_X10_82 m_X10_next (c_X10_next (x := x + 0) (zs_self _ _ _) (by first | exact hL2 | (rw [zs_ne (by decide)]; exact hL2)) hL (by first | omega | (rw [zr0]; omega) | (rw [zr0, zr0]; omega)) (by omega) (by omega)) rfl rfl rfl rfl rfl ?_
  refine X_bipush i_X10_readsDigits_15 (by decide +kernel) ?_
  refine X_bipush i_X10_readsDigits_17 (by decide +kernel) ?_
  refine Y_callS (k' := kX10_isIn) i_X10_readsDigits_19 l_X10_86 m_X10_isIn (c_X10_isIn ⟨by omega, by omega⟩ (zR_lit rfl) (zR_lit rfl)) rfl rfl rfl rfl ?_
  refine Y_ifq_ne i_X10_readsDigits_22 (tgt := 27) rfl  (fun h22 => ?_) (fun h22 => ?_)
  · 
    refine X_bipush i_X10_readsDigits_27 (by decide +kernel) ?_
    refine Y_iload_3 i_X10_readsDigits_29 ?_
    refine X_imul i_X10_readsDigits_30 ?_
    refine Y_aload_0 i_X10_readsDigits_31 ?_
    refine Y_callV (k' := kX10_next) i_X10_readsDigits_32 l_X10_82 m_X10_next (c_X10_next (x := x + 0) (zs_self _ _ _) (by first | exact hL2 | (rw [zs_ne (by decide)]; exact hL2)) hL (by first | omega | (rw [zr0]; omega) | (rw [zr0, zr0]; omega)) (by omega) (by omega)) rfl rfl rfl rfl rfl ?_
    refine X_iadd i_X10_readsDigits_35 ?_
    refine X_bipush i_X10_readsDigits_36 (by decide +kernel) ?_
    refine X_isub i_X10_readsDigits_38 ?_
    refine Y_istore_3 i_X10_readsDigits_39 rfl rfl ?_
    refine Y_aload_0 i_X10_readsDigits_40 ?_
    refine X_dup i_X10_readsDigits_41 rfl ?_
    refine Y_getI i_X10_readsDigits_42 f_X10_79 rfl (zg0 _ _ _ _ _) ?_
    refine X_iconst i_X10_readsDigits_45 ?_
    refine X_iadd i_X10_readsDigits_46 ?_
    refine Y_putI i_X10_readsDigits_47 f_X10_79 rfl t_7_17 (zp0 _ _ _ _ _ _) ?_
    refine Y_iinc_4 i_X10_readsDigits_50 rfl rfl ?_
    refine X_goto i_X10_readsDigits_53 (tgt := 5) rfl ?_
    
    refine Y_iload_4 i_X10_readsDigits_5 ?_
    refine Y_iload_2 i_X10_readsDigits_7 ?_
    refine X_icmp_ge i_X10_readsDigits_8 (tgt := 56) rfl ⟨by omega, by omega⟩ ⟨by omega, by omega⟩ (fun h8 => by exfalso; omega) (fun h8 => ?_)
    refine Y_aload_0 i_X10_readsDigits_11 ?_
    refine Y_callV (k' := kX10_next) i_X10_readsDigits_12 l_X10_82 m_X10_next (c_X10_next (x := x + 1) (zs_self _ _ _) (by first | exact hL2 | (rw [zs_ne (by decide)]; exact hL2)) hL (by first | omega | (rw [zr0]; omega) | (rw [zr0, zr0]; omega)) (by omega) (by omega)) rfl rfl rfl rfl rfl ?_
    refine X_bipush i_X10_readsDigits_15 (by decide +kernel) ?_
    refine X_bipush i_X10_readsDigits_17 (by decide +kernel) ?_
    refine Y_callS (k' := kX10_isIn) i_X10_readsDigits_19 l_X10_86 m_X10_isIn (c_X10_isIn ⟨by omega, by omega⟩ (zR_lit rfl) (zR_lit rfl)) rfl rfl rfl rfl ?_
    refine Y_ifq_ne i_X10_readsDigits_22 (tgt := 27) rfl  (fun h22 => ?_) (fun h22 => ?_)
    · 
      refine X_bipush i_X10_readsDigits_27 (by decide +kernel) ?_
      refine Y_iload_3 i_X10_readsDigits_29 ?_
      refine X_imul i_X10_readsDigits_30 ?_
      refine Y_aload_0 i_X10_readsDigits_31 ?_
      refine Y_callV (k' := kX10_next) i_X10_readsDigits_32 l_X10_82 m_X10_next (c_X10_next (x := x + 1) (zs_self _ _ _) (by first | exact hL2 | (rw [zs_ne (by decide)]; exact hL2)) hL (by first | omega | (rw [zr0]; omega) | (rw [zr0, zr0]; omega)) (by omega) (by omega)) rfl rfl rfl rfl rfl ?_
      refine X_iadd i_X10_readsDigits_35 ?_
      refine X_bipush i_X10_readsDigits_36 (by decide +kernel) ?_
      refine X_isub i_X10_readsDigits_38 ?_
      refine Y_istore_3 i_X10_readsDigits_39 rfl rfl ?_
      refine Y_aload_0 i_X10_readsDigits_40 ?_
      refine X_dup i_X10_readsDigits_41 rfl ?_
      refine Y_getI i_X10_readsDigits_42 f_X10_79 rfl (zga zr0) ?_
      refine X_iconst i_X10_readsDigits_45 ?_
      refine X_iadd i_X10_readsDigits_46 ?_
      refine Y_putI i_X10_readsDigits_47 f_X10_79 rfl t_7_17 (zp0 _ _ _ _ _ _) ?_
      refine Y_iinc_4 i_X10_readsDigits_50 rfl rfl ?_
      refine X_goto i_X10_readsDigits_53 (tgt := 5) rfl ?_
      
      refine Y_iload_4 i_X10_readsDigits_5 ?_
      refine Y_iload_2 i_X10_readsDigits_7 ?_
      refine X_icmp_ge i_X10_readsDigits_8 (tgt := 56) rfl ⟨by omega, by omega⟩ ⟨by omega, by omega⟩ (fun h8 => ?_) (fun h8 => by exfalso; omega)
      refine Y_aload_0 i_X10_readsDigits_56 ?_
      refine X_getR i_X10_readsDigits_57 f_X10_40 rfl ?_
      refine Y_iload_1 i_X10_readsDigits_60 ?_
      refine Y_iload_3 i_X10_readsDigits_61 ?_
      refine Y_iast i_X10_readsDigits_62 rfl ⟨by omega, by omega⟩ rfl (zp0 _ _ _ _ _ _) ?_
      refine X_iconst i_X10_readsDigits_63 ?_
      refine X_zret i_X10_readsDigits_64 rfl (by omega) ?_
      have hk : sDk L x 2 = 2 := by rw [sDk_2]; repeat (first | omega | split)
      exact ⟨by rw [hk]; rfl, _, ⟨by rw [zwr_row rfl, zwr_row rfl, zwr_row rfl], by rw [zwr_row rfl, zwr_row rfl, zwr_row rfl], by rw [zwr_row rfl, zwr_i (by decide), zwr_i (by decide)], by rw [zwr_row rfl, zr0, hk]; omega, fun i hi => by rw [zwr_i hi, zwr_row rfl, zwr_row rfl], fun _ => by rw [zr0]; unfold sD2 sDi; omega⟩, rfl⟩
    · refine X_iconst i_X10_readsDigits_25 ?_
      refine X_zret i_X10_readsDigits_26 rfl (by omega) ?_
      have hk : sDk L x 2 = 1 := by rw [sDk_2]; repeat (first | omega | split)
      exact ⟨by rw [hk]; rfl, _, ⟨by rw [zwr_row rfl], by rw [zwr_row rfl], by rw [zwr_i (by decide)], by rw [zr0, hk]; omega, fun i hi => by rw [zwr_row rfl], fun z => by omega⟩, rfl⟩
  · refine X_iconst i_X10_readsDigits_25 ?_
    refine X_zret i_X10_readsDigits_26 rfl (by omega) ?_
    have hk : sDk L x 2 = 0 := by rw [sDk_2]; repeat (first | omega | split)
    exact ⟨by rw [hk]; rfl, H, ⟨rfl, rfl, rfl, by rw [hk]; omega, fun i hi => rfl, fun z => by omega⟩, rfl⟩
