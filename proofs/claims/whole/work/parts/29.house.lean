set_option maxRecDepth 100000 in
theorem c_X10_next {M : zMem} {H L : zAft} (e : M 12 = H) (e2 : M 11 = L) (hL : zLt L) {x : Int} (hx : H 3 0 = x) (x0 : 0 ≤ x) (x1 : x ≤ 1000) : zCt kX10_next 0 [.ref 38] M (zRet (.int (zii (sAt L x))) M) := by
  subst e
  subst e2
  subst hx
  have hL1 := hL.1
  refine zMet (by decide) (Nat.le_of_ble_eq_true rfl) ?_
  show zX kX10_next 0 0 [some (.ref 38)] [] _ _
  refine Y_aload_0 i_X10_next_0 ?_
  refine Y_getI i_X10_next_1 f_X10_79 rfl rfl ?_
  refine Y_aload_0 i_X10_next_4 ?_
  refine Y_getI i_X10_next_5 f_X10_72 rfl rfl ?_
  refine X_icmp_ge i_X10_next_8 (tgt := 23) rfl ⟨by omega, by omega⟩ ⟨by omega, by omega⟩ (fun h8 => ?_) (fun h8 => ?_)
  · refine X_iconst i_X10_next_23 ?_
    refine X_iret i_X10_next_24 rfl ?_
    exact zri (by unfold sAt; rw [if_neg (by omega)])
  · refine Y_aload_0 i_X10_next_11 ?_
    refine X_getR i_X10_next_12 f_X10_31 rfl ?_
    refine Y_aload_0 i_X10_next_15 ?_
    refine Y_getI i_X10_next_16 f_X10_79 rfl rfl ?_
    refine Y_iald i_X10_next_19 rfl ⟨by omega, by omega⟩ rfl rfl ?_
    refine X_goto i_X10_next_20 (tgt := 24) rfl ?_
    refine X_iret i_X10_next_24 rfl ?_
    exact zri (by unfold sAt; rw [if_pos (by omega)])
set_option maxRecDepth 100000 in
theorem c_X10_digits1 {M : zMem} {H L : zAft} (hL2 : M 11 = L) (hL : zLt L) {x y : Int} (hx : H 3 0 = x) (x0 : 0 ≤ x) (x1 : x ≤ 900) (y0 : 0 ≤ y) (y1 : y < 144) : zCt kX10_readsDigits 1 [.ref 38, .int (zii y), .int (zii 1)] ((zs M 12 H)) (fun r M9 => r = some (.int (zii (if sDk L x 1 = 1 then 1 else 0))) ∧ ∃ H9, (H9 0 = H 0 ∧ H9 1 = H 1 ∧ H9 3 1 = H 3 1 ∧ H9 3 0 = x + (sDk L x 1 : Nat) ∧ (∀ i : Int, i ≠ y → H9 2 i = H 2 i) ∧ (sDk L x 1 = 1 → H9 2 y = sDi L x)) ∧ M9 = zs M 12 H9) := by
  have a0 := sAt_in hL x
  have a1 := sAt_in hL (x + 1)
  have a2 := sAt_in hL (x + 0)
  have b0 : sAt L (x + 0) = sAt L x := by rw [Int.add_zero]
  refine zMet (by decide) (Nat.le_of_ble_eq_true rfl) ?_
  show zX kX10_readsDigits 1 0 [some (.ref 38), some (.int (zii y)), some (.int (zii 1)), none, none] [] _ _
  refine X_iconst i_X10_readsDigits_0 ?_
  refine Y_istore_3 i_X10_readsDigits_1 rfl rfl ?_
  refine X_iconst i_X10_readsDigits_2 ?_
  refine Y_istore_4 i_X10_readsDigits_3 rfl rfl ?_
  
  refine Y_iload_4 i_X10_readsDigits_5 ?_
  refine Y_iload_2 i_X10_readsDigits_7 ?_
  refine X_icmp_ge i_X10_readsDigits_8 (tgt := 56) rfl ⟨by omega, by omega⟩ ⟨by omega, by omega⟩ (fun h8 => by exfalso; omega) (fun h8 => ?_)
  refine Y_aload_0 i_X10_readsDigits_11 ?_
  refine Y_callV (k' := kX10_next) i_X10_readsDigits_12 l_X10_82 m_X10_next (c_X10_next (x := x + 0) (zs_self _ _ _) (by first | exact hL2 | (rw [zs_ne (by decide)]; exact hL2)) hL (by first | omega | (rw [zr0]; omega) | (rw [zr0, zr0]; omega)) (by omega) (by omega)) rfl rfl rfl rfl rfl ?_
  refine X_bipush i_X10_readsDigits_15 (by decide +kernel) ?_
  refine X_bipush i_X10_readsDigits_17 (by decide +kernel) ?_
  refine Y_callS (k' := kX10_isIn) i_X10_readsDigits_19 l_X10_86 m_X10_isIn (c_X10_isIn ⟨by omega, by omega⟩ (zR_lit rfl) (zR_lit rfl)) rfl rfl rfl rfl ?_
  refine Y_ifq_ne i_X10_readsDigits_22 (tgt := 27) rfl  (fun h22 => ?_) (fun h22 => ?_)
  · 
    refine X_bipush i_X10_readsDigits_27 (by decide +kernel) ?_
    refine Y_iload_3 i_X10_readsDigits_29 ?_
    refine X_imul i_X10_readsDigits_30 ?_
    refine Y_aload_0 i_X10_readsDigits_31 ?_
    refine Y_callV (k' := kX10_next) i_X10_readsDigits_32 l_X10_82 m_X10_next (c_X10_next (x := x + 0) (zs_self _ _ _) (by first | exact hL2 | (rw [zs_ne (by decide)]; exact hL2)) hL (by first | omega | (rw [zr0]; omega) | (rw [zr0, zr0]; omega)) (by omega) (by omega)) rfl rfl rfl rfl rfl ?_
    refine X_iadd i_X10_readsDigits_35 ?_
    refine X_bipush i_X10_readsDigits_36 (by decide +kernel) ?_
    refine X_isub i_X10_readsDigits_38 ?_
    refine Y_istore_3 i_X10_readsDigits_39 rfl rfl ?_
    refine Y_aload_0 i_X10_readsDigits_40 ?_
    refine X_dup i_X10_readsDigits_41 rfl ?_
    refine Y_getI i_X10_readsDigits_42 f_X10_79 rfl (zg0 _ _ _ _ _) ?_
    refine X_iconst i_X10_readsDigits_45 ?_
    refine X_iadd i_X10_readsDigits_46 ?_
    refine Y_putI i_X10_readsDigits_47 f_X10_79 rfl t_7_17 (zp0 _ _ _ _ _ _) ?_
    refine Y_iinc_4 i_X10_readsDigits_50 rfl rfl ?_
    refine X_goto i_X10_readsDigits_53 (tgt := 5) rfl ?_
    
    refine Y_iload_4 i_X10_readsDigits_5 ?_
    refine Y_iload_2 i_X10_readsDigits_7 ?_
    refine X_icmp_ge i_X10_readsDigits_8 (tgt := 56) rfl ⟨by omega, by omega⟩ ⟨by omega, by omega⟩ (fun h8 => ?_) (fun h8 => by exfalso; omega)
    refine Y_aload_0 i_X10_readsDigits_56 ?_
    refine X_getR i_X10_readsDigits_57 f_X10_40 rfl ?_
    refine Y_iload_1 i_X10_readsDigits_60 ?_
    refine Y_iload_3 i_X10_readsDigits_61 ?_
    refine Y_iast i_X10_readsDigits_62 rfl ⟨by omega, by omega⟩ rfl (zp0 _ _ _ _ _ _) ?_
    refine X_iconst i_X10_readsDigits_63 ?_
    refine X_zret i_X10_readsDigits_64 rfl (by omega) ?_
    have hk : sDk L x 1 = 1 := by rw [sDk_1]; repeat (first | omega | split)
    exact ⟨by rw [hk]; rfl, _, ⟨by rw [zwr_row rfl, zwr_row rfl], by rw [zwr_row rfl, zwr_row rfl], by rw [zwr_row rfl, zwr_i (by decide)], by rw [zwr_row rfl, zr0, hk]; omega, fun i hi => by rw [zwr_i hi, zwr_row rfl], fun _ => by rw [zr0]; unfold sDi; omega⟩, rfl⟩
  · refine X_iconst i_X10_readsDigits_25 ?_
    refine X_zret i_X10_readsDigits_26 rfl (by omega) ?_
    have hk : sDk L x 1 = 0 := by rw [sDk_1]; repeat (first | omega | split)
    exact ⟨by rw [hk]; rfl, H, ⟨rfl, rfl, rfl, by rw [hk]; omega, fun i hi => rfl, fun z => by omega⟩, rfl⟩
set_option maxRecDepth 100000 in
theorem c_X10_digits2 {M : zMem} {H L : zAft} (hL2 : M 11 = L) (hL : zLt L) {x y : Int} (hx : H 3 0 = x) (x0 : 0 ≤ x) (x1 : x ≤ 900) (y0 : 0 ≤ y) (y1 : y < 144) : zCt kX10_readsDigits 1 [.ref 38, .int (zii y), .int (zii 2)] ((zs M 12 H)) (fun r M9 => r = some (.int (zii (if sDk L x 2 = 2 then 1 else 0))) ∧ ∃ H9, (H9 0 = H 0 ∧ H9 1 = H 1 ∧ H9 3 1 = H 3 1 ∧ H9 3 0 = x + (sDk L x 2 : Nat) ∧ (∀ i : Int, i ≠ y → H9 2 i = H 2 i) ∧ (sDk L x 2 = 2 → H9 2 y = sD2 L x)) ∧ M9 = zs M 12 H9) := by
  have a0 := sAt_in hL x
  have a1 := sAt_in hL (x + 1)
  have a2 := sAt_in hL (x + 0)
  have b0 : sAt L (x + 0) = sAt L x := by rw [Int.add_zero]
  refine zMet (by decide) (Nat.le_of_ble_eq_true rfl) ?_
  show zX kX10_readsDigits 1 0 [some (.ref 38), some (.int (zii y)), some (.int (zii 2)), none, none] [] _ _
  refine X_iconst i_X10_readsDigits_0 ?_
  refine Y_istore_3 i_X10_readsDigits_1 rfl rfl ?_
  refine X_iconst i_X10_readsDigits_2 ?_
  refine Y_istore_4 i_X10_readsDigits_3 rfl rfl ?_
  
  refine Y_iload_4 i_X10_readsDigits_5 ?_
  refine Y_iload_2 i_X10_readsDigits_7 ?_
  refine X_icmp_ge i_X10_readsDigits_8 (tgt := 56) rfl ⟨by omega, by omega⟩ ⟨by omega, by omega⟩ (fun h8 => by exfalso; omega) (fun h8 => ?_)
  refine Y_aload_0 i_X10_readsDigits_11 ?_
  refine Y_callV (k' := kX10_next) i_X10_readsDigits_12 l_X10_82 m_X10_next (c_X10_next (x := x + 0) (zs_self _ _ _) (by first | exact hL2 | (rw [zs_ne (by decide)]; exact hL2)) hL (by first | omega | (rw [zr0]; omega) | (rw [zr0, zr0]; omega)) (by omega) (by omega)) rfl rfl rfl rfl rfl ?_
  refine X_bipush i_X10_readsDigits_15 (by decide +kernel) ?_
  refine X_bipush i_X10_readsDigits_17 (by decide +kernel) ?_
  refine Y_callS (k' := kX10_isIn) i_X10_readsDigits_19 l_X10_86 m_X10_isIn (c_X10_isIn ⟨by omega, by omega⟩ (zR_lit rfl) (zR_lit rfl)) rfl rfl rfl rfl ?_
  refine Y_ifq_ne i_X10_readsDigits_22 (tgt := 27) rfl  (fun h22 => ?_) (fun h22 => ?_)
  · 
    refine X_bipush i_X10_readsDigits_27 (by decide +kernel) ?_
    refine Y_iload_3 i_X10_readsDigits_29 ?_
    refine X_imul i_X10_readsDigits_30 ?_
    refine Y_aload_0 i_X10_readsDigits_31 ?_
    refine Y_callV (k' := kX10_next) i_X10_readsDigits_32 l_X10_82 m_X10_next (c_X10_next (x := x + 0) (zs_self _ _ _) (by first | exact hL2 | (rw [zs_ne (by decide)]; exact hL2)) hL (by first | omega | (rw [zr0]; omega) | (rw [zr0, zr0]; omega)) (by omega) (by omega)) rfl rfl rfl rfl rfl ?_
    refine X_iadd i_X10_readsDigits_35 ?_
    refine X_bipush i_X10_readsDigits_36 (by decide +kernel) ?_
    refine X_isub i_X10_readsDigits_38 ?_
    refine Y_istore_3 i_X10_readsDigits_39 rfl rfl ?_
    refine Y_aload_0 i_X10_readsDigits_40 ?_
    refine X_dup i_X10_readsDigits_41 rfl ?_
    refine Y_getI i_X10_readsDigits_42 f_X10_79 rfl (zg0 _ _ _ _ _) ?_
    refine X_iconst i_X10_readsDigits_45 ?_
    refine X_iadd i_X10_readsDigits_46 ?_
    refine Y_putI i_X10_readsDigits_47 f_X10_79 rfl t_7_17 (zp0 _ _ _ _ _ _) ?_
    refine Y_iinc_4 i_X10_readsDigits_50 rfl rfl ?_
    refine X_goto i_X10_readsDigits_53 (tgt := 5) rfl ?_
    
    refine Y_iload_4 i_X10_readsDigits_5 ?_
    refine Y_iload_2 i_X10_readsDigits_7 ?_
    refine X_icmp_ge i_X10_readsDigits_8 (tgt := 56) rfl ⟨by omega, by omega⟩ ⟨by omega, by omega⟩ (fun h8 => by exfalso; omega) (fun h8 => ?_)
    refine Y_aload_0 i_X10_readsDigits_11 ?_
    refine Y_callV (k' := kX10_next) i_X10_readsDigits_12 l_X10_82 m_X10_next (c_X10_next (x := x + 1) (zs_self _ _ _) (by first | exact hL2 | (rw [zs_ne (by decide)]; exact hL2)) hL (by first | omega | (rw [zr0]; omega) | (rw [zr0, zr0]; omega)) (by omega) (by omega)) rfl rfl rfl rfl rfl ?_
    refine X_bipush i_X10_readsDigits_15 (by decide +kernel) ?_
    refine X_bipush i_X10_readsDigits_17 (by decide +kernel) ?_
    refine Y_callS (k' := kX10_isIn) i_X10_readsDigits_19 l_X10_86 m_X10_isIn (c_X10_isIn ⟨by omega, by omega⟩ (zR_lit rfl) (zR_lit rfl)) rfl rfl rfl rfl ?_
    refine Y_ifq_ne i_X10_readsDigits_22 (tgt := 27) rfl  (fun h22 => ?_) (fun h22 => ?_)
    · 
      refine X_bipush i_X10_readsDigits_27 (by decide +kernel) ?_
      refine Y_iload_3 i_X10_readsDigits_29 ?_
      refine X_imul i_X10_readsDigits_30 ?_
      refine Y_aload_0 i_X10_readsDigits_31 ?_
      refine Y_callV (k' := kX10_next) i_X10_readsDigits_32 l_X10_82 m_X10_next (c_X10_next (x := x + 1) (zs_self _ _ _) (by first | exact hL2 | (rw [zs_ne (by decide)]; exact hL2)) hL (by first | omega | (rw [zr0]; omega) | (rw [zr0, zr0]; omega)) (by omega) (by omega)) rfl rfl rfl rfl rfl ?_
      refine X_iadd i_X10_readsDigits_35 ?_
      refine X_bipush i_X10_readsDigits_36 (by decide +kernel) ?_
      refine X_isub i_X10_readsDigits_38 ?_
      refine Y_istore_3 i_X10_readsDigits_39 rfl rfl ?_
      refine Y_aload_0 i_X10_readsDigits_40 ?_
      refine X_dup i_X10_readsDigits_41 rfl ?_
      refine Y_getI i_X10_readsDigits_42 f_X10_79 rfl (zga zr0) ?_
      refine X_iconst i_X10_readsDigits_45 ?_
      refine X_iadd i_X10_readsDigits_46 ?_
      refine Y_putI i_X10_readsDigits_47 f_X10_79 rfl t_7_17 (zp0 _ _ _ _ _ _) ?_
      refine Y_iinc_4 i_X10_readsDigits_50 rfl rfl ?_
      refine X_goto i_X10_readsDigits_53 (tgt := 5) rfl ?_
      
      refine Y_iload_4 i_X10_readsDigits_5 ?_
      refine Y_iload_2 i_X10_readsDigits_7 ?_
      refine X_icmp_ge i_X10_readsDigits_8 (tgt := 56) rfl ⟨by omega, by omega⟩ ⟨by omega, by omega⟩ (fun h8 => ?_) (fun h8 => by exfalso; omega)
      refine Y_aload_0 i_X10_readsDigits_56 ?_
      refine X_getR i_X10_readsDigits_57 f_X10_40 rfl ?_
      refine Y_iload_1 i_X10_readsDigits_60 ?_
      refine Y_iload_3 i_X10_readsDigits_61 ?_
      refine Y_iast i_X10_readsDigits_62 rfl ⟨by omega, by omega⟩ rfl (zp0 _ _ _ _ _ _) ?_
      refine X_iconst i_X10_readsDigits_63 ?_
      refine X_zret i_X10_readsDigits_64 rfl (by omega) ?_
      have hk : sDk L x 2 = 2 := by rw [sDk_2]; repeat (first | omega | split)
      exact ⟨by rw [hk]; rfl, _, ⟨by rw [zwr_row rfl, zwr_row rfl, zwr_row rfl], by rw [zwr_row rfl, zwr_row rfl, zwr_row rfl], by rw [zwr_row rfl, zwr_i (by decide), zwr_i (by decide)], by rw [zwr_row rfl, zr0, hk]; omega, fun i hi => by rw [zwr_i hi, zwr_row rfl, zwr_row rfl], fun _ => by rw [zr0]; unfold sD2 sDi; omega⟩, rfl⟩
    · refine X_iconst i_X10_readsDigits_25 ?_
      refine X_zret i_X10_readsDigits_26 rfl (by omega) ?_
      have hk : sDk L x 2 = 1 := by rw [sDk_2]; repeat (first | omega | split)
      exact ⟨by rw [hk]; rfl, _, ⟨by rw [zwr_row rfl], by rw [zwr_row rfl], by rw [zwr_i (by decide)], by rw [zr0, hk]; omega, fun i hi => by rw [zwr_row rfl], fun z => by omega⟩, rfl⟩
  · refine X_iconst i_X10_readsDigits_25 ?_
    refine X_zret i_X10_readsDigits_26 rfl (by omega) ?_
    have hk : sDk L x 2 = 0 := by rw [sDk_2]; repeat (first | omega | split)
    exact ⟨by rw [hk]; rfl, H, ⟨rfl, rfl, rfl, by rw [hk]; omega, fun i hi => rfl, fun z => by omega⟩, rfl⟩
theorem sDk_1i (L : zAft) (x : Int) : (sDk L x 1 = 1 ∧ zDg L x) ∨ (sDk L x 1 = 0 ∧ ¬ zDg L x) := by
  rw [sDk_1]; by_cases h : zDg L x
  · rw [if_pos h]; exact Or.inl ⟨rfl, h⟩
  · rw [if_neg h]; exact Or.inr ⟨rfl, h⟩
theorem sDk_2i (L : zAft) (x : Int) : (sDk L x 2 = 2 ∧ zDg L x ∧ zDg L (x + 1)) ∨ (sDk L x 2 = 1 ∧ zDg L x ∧ ¬ zDg L (x + 1)) ∨ (sDk L x 2 = 0 ∧ ¬ zDg L x) := by
  rw [sDk_2]; by_cases h : zDg L x
  · rw [if_neg (not_not_intro h)]
    by_cases h2 : zDg L (x + 1)
    · rw [if_pos h2]; exact Or.inl ⟨rfl, h, h2⟩
    · rw [if_neg h2]; exact Or.inr (Or.inl ⟨rfl, h, h2⟩)
  · rw [if_pos h]; exact Or.inr (Or.inr ⟨rfl, h⟩)
theorem zrB (P : Prop) [Decidable P] : zR (if P then 1 else 0) := by unfold zR; split <;> omega
theorem zrB0 {P : Prop} [Decidable P] (h : (if P then (1 : Int) else 0) = 0) : ¬ P := fun z => by rw [if_pos z] at h; exact absurd h (by decide)
theorem zrB1 {P : Prop} [Decidable P] (h : ¬ (if P then (1 : Int) else 0) = 0) : P := by
  by_cases z : P
  · exact z
  · rw [if_neg z] at h; exact absurd rfl h
theorem zTl_w {L H : zAft} {k v : Int} {s : Nat} (h : zTl L H k s) : zTl L (zwr H 3 0 v) k s := by
  unfold zTl at h ⊢
  rw [zwr_r (by decide), zwr_r (by decide), zwr_r (by decide), zwr_r (by decide), zwr_r (by decide)]
  exact h
set_option maxRecDepth 100000 in
theorem c_X10_statement {M : zMem} {H L : zAft} (hL2 : M 11 = L) (hL : zLt L) {s k : Nat} (hs : H 3 0 = s) (hk : H 3 1 = k) (s1 : s ≤ 96) (k1 : k ≤ 47) : zCt kX10_statement 2 [.ref 38] ((zs M 12 H)) (fun r M9 => r = some (.int (zii (if sWf L s < 0 then 1 else 0))) ∧ ∃ H9 : zAft, (H9 3 1 = (k : Int) ∧ H9 3 0 = (if sWf L s < 0 then (s : Int) + (sLn (sAt L s) : Nat) else sWf L s) ∧ (sWf L s < 0 → zTl L H9 (k : Int) s) ∧ (∀ j : Int, 0 ≤ j → j < k → H9 0 j = H 0 j ∧ H9 1 j = H 1 j) ∧ ∀ i : Int, i < 3 * (k : Int) → H9 2 i = H 2 i) ∧ M9 = zs M 12 H9) := by
  have a0 := sAt_in hL s
  have a1 := sDk_1i L ((s : Int) + 1)
  have a2 := sDk_1i L ((s : Int) + 2)
  have a3 := sDk_2i L ((s : Int) + 3)
  have a4 := sDk_2i L ((s : Int) + 1)
  rw [show (s : Int) + 3 + 1 = (s : Int) + 4 by omega] at a3
  rw [show (s : Int) + 1 + 1 = (s : Int) + 2 by omega] at a4
  have a5 := sAt_in hL ((s : Int) + 5)
  have a6 := sAt_in hL ((s : Int) + 3)
  have a7 := sAt_in hL ((s : Int) + 2)
  refine zMet (by decide) (Nat.le_of_ble_eq_true rfl) ?_
  show zX kX10_statement 2 0 [some (.ref 38), none, none, none] [] _ _
  refine Y_aload_0 i_X10_statement_0 ?_
  refine Y_callV (k' := kX10_next) i_X10_statement_1 l_X10_82 m_X10_next (c_X10_next (x := (s : Int)) (zs_self _ _ _) (by rw [zs_ne (by decide)]; exact hL2) hL hs (by omega) (by omega)) rfl rfl rfl rfl rfl ?_
  refine Y_istore_1 i_X10_statement_4 rfl rfl ?_
  refine Y_iload_1 i_X10_statement_5 ?_
  refine X_bipush i_X10_statement_6 (by decide +kernel) ?_
  refine X_icmp_eq i_X10_statement_8 (tgt := 43) rfl ⟨by omega, by omega⟩ ⟨by omega, by omega⟩ (fun h8 => ?_) (fun h8 => ?_)
  · refine Y_aload_0 i_X10_statement_43 ?_
    refine X_getR i_X10_statement_44 f_X10_34 rfl ?_
    refine Y_aload_0 i_X10_statement_47 ?_
    refine Y_getI i_X10_statement_48 f_X10_90 rfl (zg0 _ _ _ _ _) ?_
    rw [hk]
    refine Y_iload_1 i_X10_statement_51 ?_
    refine Y_iast i_X10_statement_52 rfl ⟨by omega, by omega⟩ rfl (zp0 _ _ _ _ _ _) ?_
    refine Y_aload_0 i_X10_statement_53 ?_
    refine X_getR i_X10_statement_54 f_X10_37 rfl ?_
    refine Y_aload_0 i_X10_statement_57 ?_
    refine Y_getI i_X10_statement_58 f_X10_90 rfl (zga (zr1 rfl rfl)) ?_
    rw [hk]
    refine Y_aload_0 i_X10_statement_61 ?_
    refine Y_getI i_X10_statement_62 f_X10_79 rfl (zga (zr1 rfl rfl)) ?_
    rw [hs]
    refine Y_iast i_X10_statement_65 rfl ⟨by omega, by omega⟩ rfl (zp0 _ _ _ _ _ _) ?_
    refine Y_aload_0 i_X10_statement_66 ?_
    refine X_dup i_X10_statement_67 rfl ?_
    refine Y_getI i_X10_statement_68 f_X10_79 rfl (zga (zr1 rfl (zr1 rfl rfl))) ?_
    rw [hs]
    refine X_iconst i_X10_statement_71 ?_
    refine X_iadd i_X10_statement_72 ?_
    refine Y_putI i_X10_statement_73 f_X10_79 rfl t_7_17 (zp0 _ _ _ _ _ _) ?_
    refine X_iconst i_X10_statement_76 ?_
    refine Y_aload_0 i_X10_statement_77 ?_
    refine Y_getI i_X10_statement_78 f_X10_90 rfl (zga (zr2 (by decide) (zr1 rfl (zr1 rfl rfl)))) ?_
    rw [hk]
    refine X_imul i_X10_statement_81 ?_
    refine Y_istore_2 i_X10_statement_82 rfl rfl ?_
    refine Y_iload_1 i_X10_statement_83 ?_
    refine X_bipush i_X10_statement_84 (by decide +kernel) ?_
    refine Y_icmp_ne i_X10_statement_86 (tgt := 128) rfl ⟨by omega, by omega⟩ ⟨by omega, by omega⟩ (fun h86 => ?_) (fun h86 => ?_)
    · refine Y_aload_0 i_X10_statement_128 ?_
      refine Y_iload_2 i_X10_statement_129 ?_
      refine Y_iload_1 i_X10_statement_130 ?_
      refine X_bipush i_X10_statement_131 (by decide +kernel) ?_
      refine Y_icmp_ne i_X10_statement_133 (tgt := 140) rfl ⟨by omega, by omega⟩ ⟨by omega, by omega⟩ (fun h133 => ?_) (fun h133 => ?_)
      · refine X_iconst i_X10_statement_140 ?_
        refine Y_callVq (k' := kX10_readsDigits) i_X10_statement_141 l_X10_93 m_X10_readsDigits (c_X10_digits1 hL2 hL (x := (s : Int) + 1) (y := 3 * (k : Int)) zr0 (by omega) (by omega) (by omega) (by omega)) rfl rfl rfl rfl rfl ?_
        intro r9 M9 hr9
        obtain ⟨rfl, H2, ⟨a1, b1, c1, d1, o1, v1⟩, rfl⟩ := hr9
        refine X_tl ?_
        refine Y_istore_3 i_X10_statement_144 rfl rfl ?_
        refine Y_iload_3 i_X10_statement_145 ?_
        refine X_if_eq i_X10_statement_146 (tgt := 158) rfl (zrB _) (fun h146 => ?_) (fun h146 => ?_)
        · refine X_iconst i_X10_statement_158 ?_
          refine X_zret i_X10_statement_159 rfl (by omega) ?_
          have hw := sWf_o (L := L) (s := s) (by omega)
          have hdk := zrB0 h146
          have hwv : sWf L s = (s : Int) + 1 + (sDk L ((s : Int) + 1) 1 : Nat) := by rw [hw]; repeat (first | omega | split)
          have f0 : H2 0 = zwr H 0 (k : Int) (sAt L s) 0 := by rw [a1, zwr_row rfl, zwr_row rfl]
          have f1 : H2 1 = zwr (zwr H 0 (k : Int) (sAt L s)) 1 (k : Int) (s : Int) 1 := by rw [b1, zwr_row rfl]
          have f3 : H2 3 1 = k := by rw [c1, zwr_i (by decide), zwr_row rfl, zwr_row rfl, hk]
          have f2 : ∀ i : Int, i < 3 * (k : Int) → H2 2 i = H 2 i := fun i hi => by rw [o1 i (by omega), zwr_row rfl, zwr_row rfl, zwr_row rfl]
          exact ⟨by rw [if_neg (by omega)], H2, ⟨f3, by rw [hwv, if_neg (by omega)]; omega, fun z => by omega, fun j j0 j1 => ⟨by rw [f0]; exact zwr_i (by omega), by rw [f1]; exact (zwr_i (by omega)).trans (zwr_r (by decide))⟩, f2⟩, rfl⟩
        · refine Y_aload_0 i_X10_statement_149 ?_
          refine Y_callV (k' := kX10_next) i_X10_statement_150 l_X10_82 m_X10_next (c_X10_next (x := (s : Int) + 2) (zs_self _ _ _) (by rw [zs_ne (by decide)]; exact hL2) hL (by rw [d1, zrB1 h146]; omega) (by omega) (by omega)) rfl rfl rfl rfl rfl ?_
          refine X_bipush i_X10_statement_153 (by decide +kernel) ?_
          refine X_icmp_eq i_X10_statement_155 (tgt := 160) rfl ⟨by omega, by omega⟩ ⟨by omega, by omega⟩ (fun h155 => ?_) (fun h155 => ?_)
          · refine Y_aload_0 i_X10_statement_160 ?_
            refine X_dup i_X10_statement_161 rfl ?_
            refine Y_getI i_X10_statement_162 f_X10_79 rfl (zg0 _ _ _ _ _) ?_
            rw [d1, zrB1 h146]
            refine X_iconst i_X10_statement_165 ?_
            refine X_iadd i_X10_statement_166 ?_
            refine Y_putI i_X10_statement_167 f_X10_79 rfl t_7_17 (zp0 _ _ _ _ _ _) ?_
            refine X_iconst i_X10_statement_170 ?_
            refine X_zret i_X10_statement_171 rfl (by omega) ?_
            have hw := sWf_o (L := L) (s := s) (by omega)
            have hdk := zrB1 h146
            have hwv : sWf L s = -1 := by rw [hw]; repeat (first | omega | split)
            have f0 : H2 0 = zwr H 0 (k : Int) (sAt L s) 0 := by rw [a1, zwr_row rfl, zwr_row rfl]
            have f1 : H2 1 = zwr (zwr H 0 (k : Int) (sAt L s)) 1 (k : Int) (s : Int) 1 := by rw [b1, zwr_row rfl]
            have f3 : H2 3 1 = k := by rw [c1, zwr_i (by decide), zwr_row rfl, zwr_row rfl, hk]
            have f2 : ∀ i : Int, i < 3 * (k : Int) → H2 2 i = H 2 i := fun i hi => by rw [o1 i (by omega), zwr_row rfl, zwr_row rfl, zwr_row rfl]
            have hln : sLn (sAt L s) = 3 := by rcases (by omega : sAt L s = 114 ∨ sAt L s = 111 ∨ sAt L s = 99 ∨ sAt L s = 117) with e | e | e | e <;> rw [e] <;> rfl
            exact ⟨by rw [if_pos (by omega)], _, ⟨by rw [zwr_i (by decide)]; exact f3, by rw [zr0, hwv, if_pos (by omega), hln]; omega, fun _ => zTl_w ⟨by rw [f0, zr0], by rw [f1, zr0], by rw [if_neg (by omega)]; exact v1 hdk, fun z => by omega⟩, fun j j0 j1 => by rw [zwr_row rfl, zwr_row rfl]; exact (fun j j0 j1 => ⟨by rw [f0]; exact zwr_i (by omega), by rw [f1]; exact (zwr_i (by omega)).trans (zwr_r (by decide))⟩) j j0 j1, fun i hi => by rw [zwr_row rfl]; exact f2 i hi⟩, rfl⟩
          · refine X_iconst i_X10_statement_158 ?_
            refine X_zret i_X10_statement_159 rfl (by omega) ?_
            have hw := sWf_o (L := L) (s := s) (by omega)
            have hdk := zrB1 h146
            have hwv : sWf L s = (s : Int) + 2 := by rw [hw]; repeat (first | omega | split)
            have f0 : H2 0 = zwr H 0 (k : Int) (sAt L s) 0 := by rw [a1, zwr_row rfl, zwr_row rfl]
            have f1 : H2 1 = zwr (zwr H 0 (k : Int) (sAt L s)) 1 (k : Int) (s : Int) 1 := by rw [b1, zwr_row rfl]
            have f3 : H2 3 1 = k := by rw [c1, zwr_i (by decide), zwr_row rfl, zwr_row rfl, hk]
            have f2 : ∀ i : Int, i < 3 * (k : Int) → H2 2 i = H 2 i := fun i hi => by rw [o1 i (by omega), zwr_row rfl, zwr_row rfl, zwr_row rfl]
            exact ⟨by rw [if_neg (by omega)], H2, ⟨f3, by rw [hwv, if_neg (by omega)]; omega, fun z => by omega, fun j j0 j1 => ⟨by rw [f0]; exact zwr_i (by omega), by rw [f1]; exact (zwr_i (by omega)).trans (zwr_r (by decide))⟩, f2⟩, rfl⟩
      · refine X_iconst i_X10_statement_136 ?_
        refine X_goto i_X10_statement_137 (tgt := 141) rfl ?_
        refine Y_callVq (k' := kX10_readsDigits) i_X10_statement_141 l_X10_93 m_X10_readsDigits (c_X10_digits2 hL2 hL (x := (s : Int) + 1) (y := 3 * (k : Int)) zr0 (by omega) (by omega) (by omega) (by omega)) rfl rfl rfl rfl rfl ?_
        intro r9 M9 hr9
        obtain ⟨rfl, H2, ⟨a1, b1, c1, d1, o1, v1⟩, rfl⟩ := hr9
        refine X_tl ?_
        refine Y_istore_3 i_X10_statement_144 rfl rfl ?_
        refine Y_iload_3 i_X10_statement_145 ?_
        refine X_if_eq i_X10_statement_146 (tgt := 158) rfl (zrB _) (fun h146 => ?_) (fun h146 => ?_)
        · refine X_iconst i_X10_statement_158 ?_
          refine X_zret i_X10_statement_159 rfl (by omega) ?_
          have hcb : sAt L s = 109 := by omega
          have hw := sWf_m hcb
          have hdk := zrB0 h146
          have hwv : sWf L s = (s : Int) + 1 + (sDk L ((s : Int) + 1) 2 : Nat) := by rw [hw]; repeat (first | omega | split)
          have f0 : H2 0 = zwr H 0 (k : Int) (sAt L s) 0 := by rw [a1, zwr_row rfl, zwr_row rfl]
          have f1 : H2 1 = zwr (zwr H 0 (k : Int) (sAt L s)) 1 (k : Int) (s : Int) 1 := by rw [b1, zwr_row rfl]
          have f3 : H2 3 1 = k := by rw [c1, zwr_i (by decide), zwr_row rfl, zwr_row rfl, hk]
          have f2 : ∀ i : Int, i < 3 * (k : Int) → H2 2 i = H 2 i := fun i hi => by rw [o1 i (by omega), zwr_row rfl, zwr_row rfl, zwr_row rfl]
          exact ⟨by rw [if_neg (by omega)], H2, ⟨f3, by rw [hwv, if_neg (by omega)]; omega, fun z => by omega, fun j j0 j1 => ⟨by rw [f0]; exact zwr_i (by omega), by rw [f1]; exact (zwr_i (by omega)).trans (zwr_r (by decide))⟩, f2⟩, rfl⟩
        · refine Y_aload_0 i_X10_statement_149 ?_
          refine Y_callV (k' := kX10_next) i_X10_statement_150 l_X10_82 m_X10_next (c_X10_next (x := (s : Int) + 3) (zs_self _ _ _) (by rw [zs_ne (by decide)]; exact hL2) hL (by rw [d1, zrB1 h146]; omega) (by omega) (by omega)) rfl rfl rfl rfl rfl ?_
          refine X_bipush i_X10_statement_153 (by decide +kernel) ?_
          refine X_icmp_eq i_X10_statement_155 (tgt := 160) rfl ⟨by omega, by omega⟩ ⟨by omega, by omega⟩ (fun h155 => ?_) (fun h155 => ?_)
          · refine Y_aload_0 i_X10_statement_160 ?_
            refine X_dup i_X10_statement_161 rfl ?_
            refine Y_getI i_X10_statement_162 f_X10_79 rfl (zg0 _ _ _ _ _) ?_
            rw [d1, zrB1 h146]
            refine X_iconst i_X10_statement_165 ?_
            refine X_iadd i_X10_statement_166 ?_
            refine Y_putI i_X10_statement_167 f_X10_79 rfl t_7_17 (zp0 _ _ _ _ _ _) ?_
            refine X_iconst i_X10_statement_170 ?_
            refine X_zret i_X10_statement_171 rfl (by omega) ?_
            have hcb : sAt L s = 109 := by omega
            have hw := sWf_m hcb
            have hdk := zrB1 h146
            have hwv : sWf L s = -1 := by rw [hw]; repeat (first | omega | split)
            have f0 : H2 0 = zwr H 0 (k : Int) (sAt L s) 0 := by rw [a1, zwr_row rfl, zwr_row rfl]
            have f1 : H2 1 = zwr (zwr H 0 (k : Int) (sAt L s)) 1 (k : Int) (s : Int) 1 := by rw [b1, zwr_row rfl]
            have f3 : H2 3 1 = k := by rw [c1, zwr_i (by decide), zwr_row rfl, zwr_row rfl, hk]
            have f2 : ∀ i : Int, i < 3 * (k : Int) → H2 2 i = H 2 i := fun i hi => by rw [o1 i (by omega), zwr_row rfl, zwr_row rfl, zwr_row rfl]
            have hln : sLn (sAt L s) = 4 := by rw [hcb]; rfl
            exact ⟨by rw [if_pos (by omega)], _, ⟨by rw [zwr_i (by decide)]; exact f3, by rw [zr0, hwv, if_pos (by omega), hln]; omega, fun _ => zTl_w ⟨by rw [f0, zr0], by rw [f1, zr0], by rw [if_pos (by omega)]; exact v1 hdk, fun z => by omega⟩, fun j j0 j1 => by rw [zwr_row rfl, zwr_row rfl]; exact (fun j j0 j1 => ⟨by rw [f0]; exact zwr_i (by omega), by rw [f1]; exact (zwr_i (by omega)).trans (zwr_r (by decide))⟩) j j0 j1, fun i hi => by rw [zwr_row rfl]; exact f2 i hi⟩, rfl⟩
          · refine X_iconst i_X10_statement_158 ?_
            refine X_zret i_X10_statement_159 rfl (by omega) ?_
            have hcb : sAt L s = 109 := by omega
            have hw := sWf_m hcb
            have hdk := zrB1 h146
            have hwv : sWf L s = (s : Int) + 3 := by rw [hw]; repeat (first | omega | split)
            have f0 : H2 0 = zwr H 0 (k : Int) (sAt L s) 0 := by rw [a1, zwr_row rfl, zwr_row rfl]
            have f1 : H2 1 = zwr (zwr H 0 (k : Int) (sAt L s)) 1 (k : Int) (s : Int) 1 := by rw [b1, zwr_row rfl]
            have f3 : H2 3 1 = k := by rw [c1, zwr_i (by decide), zwr_row rfl, zwr_row rfl, hk]
            have f2 : ∀ i : Int, i < 3 * (k : Int) → H2 2 i = H 2 i := fun i hi => by rw [o1 i (by omega), zwr_row rfl, zwr_row rfl, zwr_row rfl]
            exact ⟨by rw [if_neg (by omega)], H2, ⟨f3, by rw [hwv, if_neg (by omega)]; omega, fun z => by omega, fun j j0 j1 => ⟨by rw [f0]; exact zwr_i (by omega), by rw [f1]; exact (zwr_i (by omega)).trans (zwr_r (by decide))⟩, f2⟩, rfl⟩
    · refine Y_aload_0 i_X10_statement_89 ?_
      refine Y_iload_2 i_X10_statement_90 ?_
      refine X_iconst i_X10_statement_91 ?_
      refine Y_callVq (k' := kX10_readsDigits) i_X10_statement_92 l_X10_93 m_X10_readsDigits (c_X10_digits1 hL2 hL (x := (s : Int) + 1) (y := 3 * (k : Int)) zr0 (by omega) (by omega) (by omega) (by omega)) rfl rfl rfl rfl rfl ?_
      intro r9 M9 hr9
      obtain ⟨rfl, H2, ⟨a1, b1, c1, d1, o1, v1⟩, rfl⟩ := hr9
      refine X_tl ?_
      refine Y_ifq_eq i_X10_statement_95 (tgt := 124) rfl  (fun h95 => ?_) (fun h95 => ?_)
      · refine X_iconst i_X10_statement_124 ?_
        refine X_goto i_X10_statement_125 (tgt := 144) rfl ?_
        refine Y_istore_3 i_X10_statement_144 rfl rfl ?_
        refine Y_iload_3 i_X10_statement_145 ?_
        refine X_if_eq i_X10_statement_146 (tgt := 158) rfl ⟨by omega, by omega⟩ (fun h146 => ?_) (fun h146 => by exfalso; omega)
        refine X_iconst i_X10_statement_158 ?_
        refine X_zret i_X10_statement_159 rfl (by omega) ?_
        have hcb : sAt L s = 103 := by omega
        have hw := sWf_g hcb
        have hwv : sWf L s = (s : Int) + 1 := by rw [hw]; repeat (first | omega | split)
        have f0 : H2 0 = zwr H 0 (k : Int) (sAt L s) 0 := by rw [a1, zwr_row rfl, zwr_row rfl]
        have f1 : H2 1 = zwr (zwr H 0 (k : Int) (sAt L s)) 1 (k : Int) (s : Int) 1 := by rw [b1, zwr_row rfl]
        have f3 : H2 3 1 = k := by rw [c1, zwr_i (by decide), zwr_row rfl, zwr_row rfl, hk]
        have f2 : ∀ i : Int, i < 3 * (k : Int) → H2 2 i = H 2 i := fun i hi => by rw [o1 i (by omega), zwr_row rfl, zwr_row rfl, zwr_row rfl]
        exact ⟨by rw [if_neg (by omega)], H2, ⟨f3, by rw [hwv, if_neg (by omega)]; omega, fun z => by omega, fun j j0 j1 => ⟨by rw [f0]; exact zwr_i (by omega), by rw [f1]; exact (zwr_i (by omega)).trans (zwr_r (by decide))⟩, f2⟩, rfl⟩
      · refine Y_aload_0 i_X10_statement_98 ?_
        refine Y_iload_2 i_X10_statement_99 ?_
        refine X_iconst i_X10_statement_100 ?_
        refine X_iadd i_X10_statement_101 ?_
        refine X_iconst i_X10_statement_102 ?_
        refine Y_callVq (k' := kX10_readsDigits) i_X10_statement_103 l_X10_93 m_X10_readsDigits (c_X10_digits1 hL2 hL (x := (s : Int) + 2) (y := 3 * (k : Int) + 1) (by rw [d1, h95]; omega) (by omega) (by omega) (by omega) (by omega)) rfl rfl rfl rfl rfl ?_
        intro r9 M9 hr9
        obtain ⟨rfl, H3, ⟨a2, b2, c2, d2, o2, v2⟩, rfl⟩ := hr9
        refine X_tl ?_
        refine Y_ifq_eq i_X10_statement_106 (tgt := 124) rfl  (fun h106 => ?_) (fun h106 => ?_)
        · refine X_iconst i_X10_statement_124 ?_
          refine X_goto i_X10_statement_125 (tgt := 144) rfl ?_
          refine Y_istore_3 i_X10_statement_144 rfl rfl ?_
          refine Y_iload_3 i_X10_statement_145 ?_
          refine X_if_eq i_X10_statement_146 (tgt := 158) rfl ⟨by omega, by omega⟩ (fun h146 => ?_) (fun h146 => by exfalso; omega)
          refine X_iconst i_X10_statement_158 ?_
          refine X_zret i_X10_statement_159 rfl (by omega) ?_
          have hcb : sAt L s = 103 := by omega
          have hw := sWf_g hcb
          have hwv : sWf L s = (s : Int) + 2 := by rw [hw]; repeat (first | omega | split)
          have f0 : H3 0 = zwr H 0 (k : Int) (sAt L s) 0 := by rw [a2, a1, zwr_row rfl, zwr_row rfl]
          have f1 : H3 1 = zwr (zwr H 0 (k : Int) (sAt L s)) 1 (k : Int) (s : Int) 1 := by rw [b2, b1, zwr_row rfl]
          have f3 : H3 3 1 = k := by rw [c2, c1, zwr_i (by decide), zwr_row rfl, zwr_row rfl, hk]
          have f2 : ∀ i : Int, i < 3 * (k : Int) → H3 2 i = H 2 i := fun i hi => by rw [o2 i (by omega), o1 i (by omega), zwr_row rfl, zwr_row rfl, zwr_row rfl]
          exact ⟨by rw [if_neg (by omega)], H3, ⟨f3, by rw [hwv, if_neg (by omega)]; omega, fun z => by omega, fun j j0 j1 => ⟨by rw [f0]; exact zwr_i (by omega), by rw [f1]; exact (zwr_i (by omega)).trans (zwr_r (by decide))⟩, f2⟩, rfl⟩
        · refine Y_aload_0 i_X10_statement_109 ?_
          refine Y_iload_2 i_X10_statement_110 ?_
          refine X_iconst i_X10_statement_111 ?_
          refine X_iadd i_X10_statement_112 ?_
          refine X_iconst i_X10_statement_113 ?_
          refine Y_callVq (k' := kX10_readsDigits) i_X10_statement_114 l_X10_93 m_X10_readsDigits (c_X10_digits2 hL2 hL (x := (s : Int) + 3) (y := 3 * (k : Int) + 2) (by rw [d2, h106]; omega) (by omega) (by omega) (by omega) (by omega)) rfl rfl rfl rfl rfl ?_
          intro r9 M9 hr9
          obtain ⟨rfl, H4, ⟨a3, b3, c3, d3, o3, v3⟩, rfl⟩ := hr9
          refine X_tl ?_
          refine Y_ifq_eq i_X10_statement_117 (tgt := 124) rfl  (fun h117 => ?_) (fun h117 => ?_)
          · refine X_iconst i_X10_statement_124 ?_
            refine X_goto i_X10_statement_125 (tgt := 144) rfl ?_
            refine Y_istore_3 i_X10_statement_144 rfl rfl ?_
            refine Y_iload_3 i_X10_statement_145 ?_
            refine X_if_eq i_X10_statement_146 (tgt := 158) rfl ⟨by omega, by omega⟩ (fun h146 => ?_) (fun h146 => by exfalso; omega)
            refine X_iconst i_X10_statement_158 ?_
            refine X_zret i_X10_statement_159 rfl (by omega) ?_
            have hcb : sAt L s = 103 := by omega
            have hw := sWf_g hcb
            have hwv : sWf L s = (s : Int) + 3 + (sDk L ((s : Int) + 3) 2 : Nat) := by rw [hw]; repeat (first | omega | split)
            have f0 : H4 0 = zwr H 0 (k : Int) (sAt L s) 0 := by rw [a3, a2, a1, zwr_row rfl, zwr_row rfl]
            have f1 : H4 1 = zwr (zwr H 0 (k : Int) (sAt L s)) 1 (k : Int) (s : Int) 1 := by rw [b3, b2, b1, zwr_row rfl]
            have f3 : H4 3 1 = k := by rw [c3, c2, c1, zwr_i (by decide), zwr_row rfl, zwr_row rfl, hk]
            have f2 : ∀ i : Int, i < 3 * (k : Int) → H4 2 i = H 2 i := fun i hi => by rw [o3 i (by omega), o2 i (by omega), o1 i (by omega), zwr_row rfl, zwr_row rfl, zwr_row rfl]
            exact ⟨by rw [if_neg (by omega)], H4, ⟨f3, by rw [hwv, if_neg (by omega)]; omega, fun z => by omega, fun j j0 j1 => ⟨by rw [f0]; exact zwr_i (by omega), by rw [f1]; exact (zwr_i (by omega)).trans (zwr_r (by decide))⟩, f2⟩, rfl⟩
          · refine X_iconst i_X10_statement_120 ?_
            refine X_goto i_X10_statement_121 (tgt := 144) rfl ?_
            refine Y_istore_3 i_X10_statement_144 rfl rfl ?_
            refine Y_iload_3 i_X10_statement_145 ?_
            refine X_if_eq i_X10_statement_146 (tgt := 158) rfl ⟨by omega, by omega⟩ (fun h146 => by exfalso; omega) (fun h146 => ?_)
            refine Y_aload_0 i_X10_statement_149 ?_
            refine Y_callV (k' := kX10_next) i_X10_statement_150 l_X10_82 m_X10_next (c_X10_next (x := (s : Int) + 5) (zs_self _ _ _) (by rw [zs_ne (by decide)]; exact hL2) hL (by rw [d3, h117]; omega) (by omega) (by omega)) rfl rfl rfl rfl rfl ?_
            refine X_bipush i_X10_statement_153 (by decide +kernel) ?_
            refine X_icmp_eq i_X10_statement_155 (tgt := 160) rfl ⟨by omega, by omega⟩ ⟨by omega, by omega⟩ (fun h155 => ?_) (fun h155 => ?_)
            · refine Y_aload_0 i_X10_statement_160 ?_
              refine X_dup i_X10_statement_161 rfl ?_
              refine Y_getI i_X10_statement_162 f_X10_79 rfl (zg0 _ _ _ _ _) ?_
              rw [d3, h117]
              refine X_iconst i_X10_statement_165 ?_
              refine X_iadd i_X10_statement_166 ?_
              refine Y_putI i_X10_statement_167 f_X10_79 rfl t_7_17 (zp0 _ _ _ _ _ _) ?_
              refine X_iconst i_X10_statement_170 ?_
              refine X_zret i_X10_statement_171 rfl (by omega) ?_
              have hcb : sAt L s = 103 := by omega
              have hw := sWf_g hcb
              have hwv : sWf L s = -1 := by rw [hw]; repeat (first | omega | split)
              have f0 : H4 0 = zwr H 0 (k : Int) (sAt L s) 0 := by rw [a3, a2, a1, zwr_row rfl, zwr_row rfl]
              have f1 : H4 1 = zwr (zwr H 0 (k : Int) (sAt L s)) 1 (k : Int) (s : Int) 1 := by rw [b3, b2, b1, zwr_row rfl]
              have f3 : H4 3 1 = k := by rw [c3, c2, c1, zwr_i (by decide), zwr_row rfl, zwr_row rfl, hk]
              have f2 : ∀ i : Int, i < 3 * (k : Int) → H4 2 i = H 2 i := fun i hi => by rw [o3 i (by omega), o2 i (by omega), o1 i (by omega), zwr_row rfl, zwr_row rfl, zwr_row rfl]
              have hln : sLn (sAt L s) = 6 := by rw [hcb]; rfl
              exact ⟨by rw [if_pos (by omega)], _, ⟨by rw [zwr_i (by decide)]; exact f3, by rw [zr0, hwv, if_pos (by omega), hln]; omega, fun _ => zTl_w ⟨by rw [f0, zr0], by rw [f1, zr0], by rw [if_neg (by omega), o3 _ (by omega), o2 _ (by omega)]; exact v1 h95, fun _ => ⟨by rw [o3 _ (by omega)]; exact v2 h106, v3 h117⟩⟩, fun j j0 j1 => by rw [zwr_row rfl, zwr_row rfl]; exact (fun j j0 j1 => ⟨by rw [f0]; exact zwr_i (by omega), by rw [f1]; exact (zwr_i (by omega)).trans (zwr_r (by decide))⟩) j j0 j1, fun i hi => by rw [zwr_row rfl]; exact f2 i hi⟩, rfl⟩
            · refine X_iconst i_X10_statement_158 ?_
              refine X_zret i_X10_statement_159 rfl (by omega) ?_
              have hcb : sAt L s = 103 := by omega
              have hw := sWf_g hcb
              have hwv : sWf L s = (s : Int) + 5 := by rw [hw]; repeat (first | omega | split)
              have f0 : H4 0 = zwr H 0 (k : Int) (sAt L s) 0 := by rw [a3, a2, a1, zwr_row rfl, zwr_row rfl]
              have f1 : H4 1 = zwr (zwr H 0 (k : Int) (sAt L s)) 1 (k : Int) (s : Int) 1 := by rw [b3, b2, b1, zwr_row rfl]
              have f3 : H4 3 1 = k := by rw [c3, c2, c1, zwr_i (by decide), zwr_row rfl, zwr_row rfl, hk]
              have f2 : ∀ i : Int, i < 3 * (k : Int) → H4 2 i = H 2 i := fun i hi => by rw [o3 i (by omega), o2 i (by omega), o1 i (by omega), zwr_row rfl, zwr_row rfl, zwr_row rfl]
              exact ⟨by rw [if_neg (by omega)], H4, ⟨f3, by rw [hwv, if_neg (by omega)]; omega, fun z => by omega, fun j j0 j1 => ⟨by rw [f0]; exact zwr_i (by omega), by rw [f1]; exact (zwr_i (by omega)).trans (zwr_r (by decide))⟩, f2⟩, rfl⟩
  · refine Y_iload_1 i_X10_statement_11 ?_
    refine X_bipush i_X10_statement_12 (by decide +kernel) ?_
    refine X_icmp_eq i_X10_statement_14 (tgt := 43) rfl ⟨by omega, by omega⟩ ⟨by omega, by omega⟩ (fun h14 => ?_) (fun h14 => ?_)
    · refine Y_aload_0 i_X10_statement_43 ?_
      refine X_getR i_X10_statement_44 f_X10_34 rfl ?_
      refine Y_aload_0 i_X10_statement_47 ?_
      refine Y_getI i_X10_statement_48 f_X10_90 rfl (zg0 _ _ _ _ _) ?_
      rw [hk]
      refine Y_iload_1 i_X10_statement_51 ?_
      refine Y_iast i_X10_statement_52 rfl ⟨by omega, by omega⟩ rfl (zp0 _ _ _ _ _ _) ?_
      refine Y_aload_0 i_X10_statement_53 ?_
      refine X_getR i_X10_statement_54 f_X10_37 rfl ?_
      refine Y_aload_0 i_X10_statement_57 ?_
      refine Y_getI i_X10_statement_58 f_X10_90 rfl (zga (zr1 rfl rfl)) ?_
      rw [hk]
      refine Y_aload_0 i_X10_statement_61 ?_
      refine Y_getI i_X10_statement_62 f_X10_79 rfl (zga (zr1 rfl rfl)) ?_
      rw [hs]
      refine Y_iast i_X10_statement_65 rfl ⟨by omega, by omega⟩ rfl (zp0 _ _ _ _ _ _) ?_
      refine Y_aload_0 i_X10_statement_66 ?_
      refine X_dup i_X10_statement_67 rfl ?_
      refine Y_getI i_X10_statement_68 f_X10_79 rfl (zga (zr1 rfl (zr1 rfl rfl))) ?_
      rw [hs]
      refine X_iconst i_X10_statement_71 ?_
      refine X_iadd i_X10_statement_72 ?_
      refine Y_putI i_X10_statement_73 f_X10_79 rfl t_7_17 (zp0 _ _ _ _ _ _) ?_
      refine X_iconst i_X10_statement_76 ?_
      refine Y_aload_0 i_X10_statement_77 ?_
      refine Y_getI i_X10_statement_78 f_X10_90 rfl (zga (zr2 (by decide) (zr1 rfl (zr1 rfl rfl)))) ?_
      rw [hk]
      refine X_imul i_X10_statement_81 ?_
      refine Y_istore_2 i_X10_statement_82 rfl rfl ?_
      refine Y_iload_1 i_X10_statement_83 ?_
      refine X_bipush i_X10_statement_84 (by decide +kernel) ?_
      refine Y_icmp_ne i_X10_statement_86 (tgt := 128) rfl ⟨by omega, by omega⟩ ⟨by omega, by omega⟩ (fun h86 => ?_) (fun h86 => ?_)
      · refine Y_aload_0 i_X10_statement_128 ?_
        refine Y_iload_2 i_X10_statement_129 ?_
        refine Y_iload_1 i_X10_statement_130 ?_
        refine X_bipush i_X10_statement_131 (by decide +kernel) ?_
        refine Y_icmp_ne i_X10_statement_133 (tgt := 140) rfl ⟨by omega, by omega⟩ ⟨by omega, by omega⟩ (fun h133 => ?_) (fun h133 => ?_)
        · refine X_iconst i_X10_statement_140 ?_
          refine Y_callVq (k' := kX10_readsDigits) i_X10_statement_141 l_X10_93 m_X10_readsDigits (c_X10_digits1 hL2 hL (x := (s : Int) + 1) (y := 3 * (k : Int)) zr0 (by omega) (by omega) (by omega) (by omega)) rfl rfl rfl rfl rfl ?_
          intro r9 M9 hr9
          obtain ⟨rfl, H2, ⟨a1, b1, c1, d1, o1, v1⟩, rfl⟩ := hr9
          refine X_tl ?_
          refine Y_istore_3 i_X10_statement_144 rfl rfl ?_
          refine Y_iload_3 i_X10_statement_145 ?_
          refine X_if_eq i_X10_statement_146 (tgt := 158) rfl (zrB _) (fun h146 => ?_) (fun h146 => ?_)
          · refine X_iconst i_X10_statement_158 ?_
            refine X_zret i_X10_statement_159 rfl (by omega) ?_
            have hw := sWf_o (L := L) (s := s) (by omega)
            have hdk := zrB0 h146
            have hwv : sWf L s = (s : Int) + 1 + (sDk L ((s : Int) + 1) 1 : Nat) := by rw [hw]; repeat (first | omega | split)
            have f0 : H2 0 = zwr H 0 (k : Int) (sAt L s) 0 := by rw [a1, zwr_row rfl, zwr_row rfl]
            have f1 : H2 1 = zwr (zwr H 0 (k : Int) (sAt L s)) 1 (k : Int) (s : Int) 1 := by rw [b1, zwr_row rfl]
            have f3 : H2 3 1 = k := by rw [c1, zwr_i (by decide), zwr_row rfl, zwr_row rfl, hk]
            have f2 : ∀ i : Int, i < 3 * (k : Int) → H2 2 i = H 2 i := fun i hi => by rw [o1 i (by omega), zwr_row rfl, zwr_row rfl, zwr_row rfl]
            exact ⟨by rw [if_neg (by omega)], H2, ⟨f3, by rw [hwv, if_neg (by omega)]; omega, fun z => by omega, fun j j0 j1 => ⟨by rw [f0]; exact zwr_i (by omega), by rw [f1]; exact (zwr_i (by omega)).trans (zwr_r (by decide))⟩, f2⟩, rfl⟩
          · refine Y_aload_0 i_X10_statement_149 ?_
            refine Y_callV (k' := kX10_next) i_X10_statement_150 l_X10_82 m_X10_next (c_X10_next (x := (s : Int) + 2) (zs_self _ _ _) (by rw [zs_ne (by decide)]; exact hL2) hL (by rw [d1, zrB1 h146]; omega) (by omega) (by omega)) rfl rfl rfl rfl rfl ?_
            refine X_bipush i_X10_statement_153 (by decide +kernel) ?_
            refine X_icmp_eq i_X10_statement_155 (tgt := 160) rfl ⟨by omega, by omega⟩ ⟨by omega, by omega⟩ (fun h155 => ?_) (fun h155 => ?_)
            · refine Y_aload_0 i_X10_statement_160 ?_
              refine X_dup i_X10_statement_161 rfl ?_
              refine Y_getI i_X10_statement_162 f_X10_79 rfl (zg0 _ _ _ _ _) ?_
              rw [d1, zrB1 h146]
              refine X_iconst i_X10_statement_165 ?_
              refine X_iadd i_X10_statement_166 ?_
              refine Y_putI i_X10_statement_167 f_X10_79 rfl t_7_17 (zp0 _ _ _ _ _ _) ?_
              refine X_iconst i_X10_statement_170 ?_
              refine X_zret i_X10_statement_171 rfl (by omega) ?_
              have hw := sWf_o (L := L) (s := s) (by omega)
              have hdk := zrB1 h146
              have hwv : sWf L s = -1 := by rw [hw]; repeat (first | omega | split)
              have f0 : H2 0 = zwr H 0 (k : Int) (sAt L s) 0 := by rw [a1, zwr_row rfl, zwr_row rfl]
              have f1 : H2 1 = zwr (zwr H 0 (k : Int) (sAt L s)) 1 (k : Int) (s : Int) 1 := by rw [b1, zwr_row rfl]
              have f3 : H2 3 1 = k := by rw [c1, zwr_i (by decide), zwr_row rfl, zwr_row rfl, hk]
              have f2 : ∀ i : Int, i < 3 * (k : Int) → H2 2 i = H 2 i := fun i hi => by rw [o1 i (by omega), zwr_row rfl, zwr_row rfl, zwr_row rfl]
              have hln : sLn (sAt L s) = 3 := by rcases (by omega : sAt L s = 114 ∨ sAt L s = 111 ∨ sAt L s = 99 ∨ sAt L s = 117) with e | e | e | e <;> rw [e] <;> rfl
              exact ⟨by rw [if_pos (by omega)], _, ⟨by rw [zwr_i (by decide)]; exact f3, by rw [zr0, hwv, if_pos (by omega), hln]; omega, fun _ => zTl_w ⟨by rw [f0, zr0], by rw [f1, zr0], by rw [if_neg (by omega)]; exact v1 hdk, fun z => by omega⟩, fun j j0 j1 => by rw [zwr_row rfl, zwr_row rfl]; exact (fun j j0 j1 => ⟨by rw [f0]; exact zwr_i (by omega), by rw [f1]; exact (zwr_i (by omega)).trans (zwr_r (by decide))⟩) j j0 j1, fun i hi => by rw [zwr_row rfl]; exact f2 i hi⟩, rfl⟩
            · refine X_iconst i_X10_statement_158 ?_
              refine X_zret i_X10_statement_159 rfl (by omega) ?_
              have hw := sWf_o (L := L) (s := s) (by omega)
              have hdk := zrB1 h146
              have hwv : sWf L s = (s : Int) + 2 := by rw [hw]; repeat (first | omega | split)
              have f0 : H2 0 = zwr H 0 (k : Int) (sAt L s) 0 := by rw [a1, zwr_row rfl, zwr_row rfl]
              have f1 : H2 1 = zwr (zwr H 0 (k : Int) (sAt L s)) 1 (k : Int) (s : Int) 1 := by rw [b1, zwr_row rfl]
              have f3 : H2 3 1 = k := by rw [c1, zwr_i (by decide), zwr_row rfl, zwr_row rfl, hk]
              have f2 : ∀ i : Int, i < 3 * (k : Int) → H2 2 i = H 2 i := fun i hi => by rw [o1 i (by omega), zwr_row rfl, zwr_row rfl, zwr_row rfl]
              exact ⟨by rw [if_neg (by omega)], H2, ⟨f3, by rw [hwv, if_neg (by omega)]; omega, fun z => by omega, fun j j0 j1 => ⟨by rw [f0]; exact zwr_i (by omega), by rw [f1]; exact (zwr_i (by omega)).trans (zwr_r (by decide))⟩, f2⟩, rfl⟩
        · refine X_iconst i_X10_statement_136 ?_
          refine X_goto i_X10_statement_137 (tgt := 141) rfl ?_
          refine Y_callVq (k' := kX10_readsDigits) i_X10_statement_141 l_X10_93 m_X10_readsDigits (c_X10_digits2 hL2 hL (x := (s : Int) + 1) (y := 3 * (k : Int)) zr0 (by omega) (by omega) (by omega) (by omega)) rfl rfl rfl rfl rfl ?_
          intro r9 M9 hr9
          obtain ⟨rfl, H2, ⟨a1, b1, c1, d1, o1, v1⟩, rfl⟩ := hr9
          refine X_tl ?_
          refine Y_istore_3 i_X10_statement_144 rfl rfl ?_
          refine Y_iload_3 i_X10_statement_145 ?_
          refine X_if_eq i_X10_statement_146 (tgt := 158) rfl (zrB _) (fun h146 => ?_) (fun h146 => ?_)
          · refine X_iconst i_X10_statement_158 ?_
            refine X_zret i_X10_statement_159 rfl (by omega) ?_
            have hcb : sAt L s = 109 := by omega
            have hw := sWf_m hcb
            have hdk := zrB0 h146
            have hwv : sWf L s = (s : Int) + 1 + (sDk L ((s : Int) + 1) 2 : Nat) := by rw [hw]; repeat (first | omega | split)
            have f0 : H2 0 = zwr H 0 (k : Int) (sAt L s) 0 := by rw [a1, zwr_row rfl, zwr_row rfl]
            have f1 : H2 1 = zwr (zwr H 0 (k : Int) (sAt L s)) 1 (k : Int) (s : Int) 1 := by rw [b1, zwr_row rfl]
            have f3 : H2 3 1 = k := by rw [c1, zwr_i (by decide), zwr_row rfl, zwr_row rfl, hk]
            have f2 : ∀ i : Int, i < 3 * (k : Int) → H2 2 i = H 2 i := fun i hi => by rw [o1 i (by omega), zwr_row rfl, zwr_row rfl, zwr_row rfl]
            exact ⟨by rw [if_neg (by omega)], H2, ⟨f3, by rw [hwv, if_neg (by omega)]; omega, fun z => by omega, fun j j0 j1 => ⟨by rw [f0]; exact zwr_i (by omega), by rw [f1]; exact (zwr_i (by omega)).trans (zwr_r (by decide))⟩, f2⟩, rfl⟩
          · refine Y_aload_0 i_X10_statement_149 ?_
            refine Y_callV (k' := kX10_next) i_X10_statement_150 l_X10_82 m_X10_next (c_X10_next (x := (s : Int) + 3) (zs_self _ _ _) (by rw [zs_ne (by decide)]; exact hL2) hL (by rw [d1, zrB1 h146]; omega) (by omega) (by omega)) rfl rfl rfl rfl rfl ?_
            refine X_bipush i_X10_statement_153 (by decide +kernel) ?_
            refine X_icmp_eq i_X10_statement_155 (tgt := 160) rfl ⟨by omega, by omega⟩ ⟨by omega, by omega⟩ (fun h155 => ?_) (fun h155 => ?_)
            · refine Y_aload_0 i_X10_statement_160 ?_
              refine X_dup i_X10_statement_161 rfl ?_
              refine Y_getI i_X10_statement_162 f_X10_79 rfl (zg0 _ _ _ _ _) ?_
              rw [d1, zrB1 h146]
              refine X_iconst i_X10_statement_165 ?_
              refine X_iadd i_X10_statement_166 ?_
              refine Y_putI i_X10_statement_167 f_X10_79 rfl t_7_17 (zp0 _ _ _ _ _ _) ?_
              refine X_iconst i_X10_statement_170 ?_
              refine X_zret i_X10_statement_171 rfl (by omega) ?_
              have hcb : sAt L s = 109 := by omega
              have hw := sWf_m hcb
              have hdk := zrB1 h146
              have hwv : sWf L s = -1 := by rw [hw]; repeat (first | omega | split)
              have f0 : H2 0 = zwr H 0 (k : Int) (sAt L s) 0 := by rw [a1, zwr_row rfl, zwr_row rfl]
              have f1 : H2 1 = zwr (zwr H 0 (k : Int) (sAt L s)) 1 (k : Int) (s : Int) 1 := by rw [b1, zwr_row rfl]
              have f3 : H2 3 1 = k := by rw [c1, zwr_i (by decide), zwr_row rfl, zwr_row rfl, hk]
              have f2 : ∀ i : Int, i < 3 * (k : Int) → H2 2 i = H 2 i := fun i hi => by rw [o1 i (by omega), zwr_row rfl, zwr_row rfl, zwr_row rfl]
              have hln : sLn (sAt L s) = 4 := by rw [hcb]; rfl
              exact ⟨by rw [if_pos (by omega)], _, ⟨by rw [zwr_i (by decide)]; exact f3, by rw [zr0, hwv, if_pos (by omega), hln]; omega, fun _ => zTl_w ⟨by rw [f0, zr0], by rw [f1, zr0], by rw [if_pos (by omega)]; exact v1 hdk, fun z => by omega⟩, fun j j0 j1 => by rw [zwr_row rfl, zwr_row rfl]; exact (fun j j0 j1 => ⟨by rw [f0]; exact zwr_i (by omega), by rw [f1]; exact (zwr_i (by omega)).trans (zwr_r (by decide))⟩) j j0 j1, fun i hi => by rw [zwr_row rfl]; exact f2 i hi⟩, rfl⟩
            · refine X_iconst i_X10_statement_158 ?_
              refine X_zret i_X10_statement_159 rfl (by omega) ?_
              have hcb : sAt L s = 109 := by omega
              have hw := sWf_m hcb
              have hdk := zrB1 h146
              have hwv : sWf L s = (s : Int) + 3 := by rw [hw]; repeat (first | omega | split)
              have f0 : H2 0 = zwr H 0 (k : Int) (sAt L s) 0 := by rw [a1, zwr_row rfl, zwr_row rfl]
              have f1 : H2 1 = zwr (zwr H 0 (k : Int) (sAt L s)) 1 (k : Int) (s : Int) 1 := by rw [b1, zwr_row rfl]
              have f3 : H2 3 1 = k := by rw [c1, zwr_i (by decide), zwr_row rfl, zwr_row rfl, hk]
              have f2 : ∀ i : Int, i < 3 * (k : Int) → H2 2 i = H 2 i := fun i hi => by rw [o1 i (by omega), zwr_row rfl, zwr_row rfl, zwr_row rfl]
              exact ⟨by rw [if_neg (by omega)], H2, ⟨f3, by rw [hwv, if_neg (by omega)]; omega, fun z => by omega, fun j j0 j1 => ⟨by rw [f0]; exact zwr_i (by omega), by rw [f1]; exact (zwr_i (by omega)).trans (zwr_r (by decide))⟩, f2⟩, rfl⟩
      · refine Y_aload_0 i_X10_statement_89 ?_
        refine Y_iload_2 i_X10_statement_90 ?_
        refine X_iconst i_X10_statement_91 ?_
        refine Y_callVq (k' := kX10_readsDigits) i_X10_statement_92 l_X10_93 m_X10_readsDigits (c_X10_digits1 hL2 hL (x := (s : Int) + 1) (y := 3 * (k : Int)) zr0 (by omega) (by omega) (by omega) (by omega)) rfl rfl rfl rfl rfl ?_
        intro r9 M9 hr9
        obtain ⟨rfl, H2, ⟨a1, b1, c1, d1, o1, v1⟩, rfl⟩ := hr9
        refine X_tl ?_
        refine Y_ifq_eq i_X10_statement_95 (tgt := 124) rfl  (fun h95 => ?_) (fun h95 => ?_)
        · refine X_iconst i_X10_statement_124 ?_
          refine X_goto i_X10_statement_125 (tgt := 144) rfl ?_
          refine Y_istore_3 i_X10_statement_144 rfl rfl ?_
          refine Y_iload_3 i_X10_statement_145 ?_
          refine X_if_eq i_X10_statement_146 (tgt := 158) rfl ⟨by omega, by omega⟩ (fun h146 => ?_) (fun h146 => by exfalso; omega)
          refine X_iconst i_X10_statement_158 ?_
          refine X_zret i_X10_statement_159 rfl (by omega) ?_
          have hcb : sAt L s = 103 := by omega
          have hw := sWf_g hcb
          have hwv : sWf L s = (s : Int) + 1 := by rw [hw]; repeat (first | omega | split)
          have f0 : H2 0 = zwr H 0 (k : Int) (sAt L s) 0 := by rw [a1, zwr_row rfl, zwr_row rfl]
          have f1 : H2 1 = zwr (zwr H 0 (k : Int) (sAt L s)) 1 (k : Int) (s : Int) 1 := by rw [b1, zwr_row rfl]
          have f3 : H2 3 1 = k := by rw [c1, zwr_i (by decide), zwr_row rfl, zwr_row rfl, hk]
          have f2 : ∀ i : Int, i < 3 * (k : Int) → H2 2 i = H 2 i := fun i hi => by rw [o1 i (by omega), zwr_row rfl, zwr_row rfl, zwr_row rfl]
          exact ⟨by rw [if_neg (by omega)], H2, ⟨f3, by rw [hwv, if_neg (by omega)]; omega, fun z => by omega, fun j j0 j1 => ⟨by rw [f0]; exact zwr_i (by omega), by rw [f1]; exact (zwr_i (by omega)).trans (zwr_r (by decide))⟩, f2⟩, rfl⟩
        · refine Y_aload_0 i_X10_statement_98 ?_
          refine Y_iload_2 i_X10_statement_99 ?_
          refine X_iconst i_X10_statement_100 ?_
          refine X_iadd i_X10_statement_101 ?_
          refine X_iconst i_X10_statement_102 ?_
          refine Y_callVq (k' := kX10_readsDigits) i_X10_statement_103 l_X10_93 m_X10_readsDigits (c_X10_digits1 hL2 hL (x := (s : Int) + 2) (y := 3 * (k : Int) + 1) (by rw [d1, h95]; omega) (by omega) (by omega) (by omega) (by omega)) rfl rfl rfl rfl rfl ?_
          intro r9 M9 hr9
          obtain ⟨rfl, H3, ⟨a2, b2, c2, d2, o2, v2⟩, rfl⟩ := hr9
          refine X_tl ?_
          refine Y_ifq_eq i_X10_statement_106 (tgt := 124) rfl  (fun h106 => ?_) (fun h106 => ?_)
          · refine X_iconst i_X10_statement_124 ?_
            refine X_goto i_X10_statement_125 (tgt := 144) rfl ?_
            refine Y_istore_3 i_X10_statement_144 rfl rfl ?_
            refine Y_iload_3 i_X10_statement_145 ?_
            refine X_if_eq i_X10_statement_146 (tgt := 158) rfl ⟨by omega, by omega⟩ (fun h146 => ?_) (fun h146 => by exfalso; omega)
            refine X_iconst i_X10_statement_158 ?_
            refine X_zret i_X10_statement_159 rfl (by omega) ?_
            have hcb : sAt L s = 103 := by omega
            have hw := sWf_g hcb
            have hwv : sWf L s = (s : Int) + 2 := by rw [hw]; repeat (first | omega | split)
            have f0 : H3 0 = zwr H 0 (k : Int) (sAt L s) 0 := by rw [a2, a1, zwr_row rfl, zwr_row rfl]
            have f1 : H3 1 = zwr (zwr H 0 (k : Int) (sAt L s)) 1 (k : Int) (s : Int) 1 := by rw [b2, b1, zwr_row rfl]
            have f3 : H3 3 1 = k := by rw [c2, c1, zwr_i (by decide), zwr_row rfl, zwr_row rfl, hk]
            have f2 : ∀ i : Int, i < 3 * (k : Int) → H3 2 i = H 2 i := fun i hi => by rw [o2 i (by omega), o1 i (by omega), zwr_row rfl, zwr_row rfl, zwr_row rfl]
            exact ⟨by rw [if_neg (by omega)], H3, ⟨f3, by rw [hwv, if_neg (by omega)]; omega, fun z => by omega, fun j j0 j1 => ⟨by rw [f0]; exact zwr_i (by omega), by rw [f1]; exact (zwr_i (by omega)).trans (zwr_r (by decide))⟩, f2⟩, rfl⟩
          · refine Y_aload_0 i_X10_statement_109 ?_
            refine Y_iload_2 i_X10_statement_110 ?_
            refine X_iconst i_X10_statement_111 ?_
            refine X_iadd i_X10_statement_112 ?_
            refine X_iconst i_X10_statement_113 ?_
            refine Y_callVq (k' := kX10_readsDigits) i_X10_statement_114 l_X10_93 m_X10_readsDigits (c_X10_digits2 hL2 hL (x := (s : Int) + 3) (y := 3 * (k : Int) + 2) (by rw [d2, h106]; omega) (by omega) (by omega) (by omega) (by omega)) rfl rfl rfl rfl rfl ?_
            intro r9 M9 hr9
            obtain ⟨rfl, H4, ⟨a3, b3, c3, d3, o3, v3⟩, rfl⟩ := hr9
            refine X_tl ?_
            refine Y_ifq_eq i_X10_statement_117 (tgt := 124) rfl  (fun h117 => ?_) (fun h117 => ?_)
            · refine X_iconst i_X10_statement_124 ?_
              refine X_goto i_X10_statement_125 (tgt := 144) rfl ?_
              refine Y_istore_3 i_X10_statement_144 rfl rfl ?_
              refine Y_iload_3 i_X10_statement_145 ?_
              refine X_if_eq i_X10_statement_146 (tgt := 158) rfl ⟨by omega, by omega⟩ (fun h146 => ?_) (fun h146 => by exfalso; omega)
              refine X_iconst i_X10_statement_158 ?_
              refine X_zret i_X10_statement_159 rfl (by omega) ?_
              have hcb : sAt L s = 103 := by omega
              have hw := sWf_g hcb
              have hwv : sWf L s = (s : Int) + 3 + (sDk L ((s : Int) + 3) 2 : Nat) := by rw [hw]; repeat (first | omega | split)
              have f0 : H4 0 = zwr H 0 (k : Int) (sAt L s) 0 := by rw [a3, a2, a1, zwr_row rfl, zwr_row rfl]
              have f1 : H4 1 = zwr (zwr H 0 (k : Int) (sAt L s)) 1 (k : Int) (s : Int) 1 := by rw [b3, b2, b1, zwr_row rfl]
              have f3 : H4 3 1 = k := by rw [c3, c2, c1, zwr_i (by decide), zwr_row rfl, zwr_row rfl, hk]
              have f2 : ∀ i : Int, i < 3 * (k : Int) → H4 2 i = H 2 i := fun i hi => by rw [o3 i (by omega), o2 i (by omega), o1 i (by omega), zwr_row rfl, zwr_row rfl, zwr_row rfl]
              exact ⟨by rw [if_neg (by omega)], H4, ⟨f3, by rw [hwv, if_neg (by omega)]; omega, fun z => by omega, fun j j0 j1 => ⟨by rw [f0]; exact zwr_i (by omega), by rw [f1]; exact (zwr_i (by omega)).trans (zwr_r (by decide))⟩, f2⟩, rfl⟩
            · refine X_iconst i_X10_statement_120 ?_
              refine X_goto i_X10_statement_121 (tgt := 144) rfl ?_
              refine Y_istore_3 i_X10_statement_144 rfl rfl ?_
              refine Y_iload_3 i_X10_statement_145 ?_
              refine X_if_eq i_X10_statement_146 (tgt := 158) rfl ⟨by omega, by omega⟩ (fun h146 => by exfalso; omega) (fun h146 => ?_)
              refine Y_aload_0 i_X10_statement_149 ?_
              refine Y_callV (k' := kX10_next) i_X10_statement_150 l_X10_82 m_X10_next (c_X10_next (x := (s : Int) + 5) (zs_self _ _ _) (by rw [zs_ne (by decide)]; exact hL2) hL (by rw [d3, h117]; omega) (by omega) (by omega)) rfl rfl rfl rfl rfl ?_
              refine X_bipush i_X10_statement_153 (by decide +kernel) ?_
              refine X_icmp_eq i_X10_statement_155 (tgt := 160) rfl ⟨by omega, by omega⟩ ⟨by omega, by omega⟩ (fun h155 => ?_) (fun h155 => ?_)
              · refine Y_aload_0 i_X10_statement_160 ?_
                refine X_dup i_X10_statement_161 rfl ?_
                refine Y_getI i_X10_statement_162 f_X10_79 rfl (zg0 _ _ _ _ _) ?_
                rw [d3, h117]
                refine X_iconst i_X10_statement_165 ?_
                refine X_iadd i_X10_statement_166 ?_
                refine Y_putI i_X10_statement_167 f_X10_79 rfl t_7_17 (zp0 _ _ _ _ _ _) ?_
                refine X_iconst i_X10_statement_170 ?_
                refine X_zret i_X10_statement_171 rfl (by omega) ?_
                have hcb : sAt L s = 103 := by omega
                have hw := sWf_g hcb
                have hwv : sWf L s = -1 := by rw [hw]; repeat (first | omega | split)
                have f0 : H4 0 = zwr H 0 (k : Int) (sAt L s) 0 := by rw [a3, a2, a1, zwr_row rfl, zwr_row rfl]
                have f1 : H4 1 = zwr (zwr H 0 (k : Int) (sAt L s)) 1 (k : Int) (s : Int) 1 := by rw [b3, b2, b1, zwr_row rfl]
                have f3 : H4 3 1 = k := by rw [c3, c2, c1, zwr_i (by decide), zwr_row rfl, zwr_row rfl, hk]
                have f2 : ∀ i : Int, i < 3 * (k : Int) → H4 2 i = H 2 i := fun i hi => by rw [o3 i (by omega), o2 i (by omega), o1 i (by omega), zwr_row rfl, zwr_row rfl, zwr_row rfl]
                have hln : sLn (sAt L s) = 6 := by rw [hcb]; rfl
                exact ⟨by rw [if_pos (by omega)], _, ⟨by rw [zwr_i (by decide)]; exact f3, by rw [zr0, hwv, if_pos (by omega), hln]; omega, fun _ => zTl_w ⟨by rw [f0, zr0], by rw [f1, zr0], by rw [if_neg (by omega), o3 _ (by omega), o2 _ (by omega)]; exact v1 h95, fun _ => ⟨by rw [o3 _ (by omega)]; exact v2 h106, v3 h117⟩⟩, fun j j0 j1 => by rw [zwr_row rfl, zwr_row rfl]; exact (fun j j0 j1 => ⟨by rw [f0]; exact zwr_i (by omega), by rw [f1]; exact (zwr_i (by omega)).trans (zwr_r (by decide))⟩) j j0 j1, fun i hi => by rw [zwr_row rfl]; exact f2 i hi⟩, rfl⟩
              · refine X_iconst i_X10_statement_158 ?_
                refine X_zret i_X10_statement_159 rfl (by omega) ?_
                have hcb : sAt L s = 103 := by omega
                have hw := sWf_g hcb
                have hwv : sWf L s = (s : Int) + 5 := by rw [hw]; repeat (first | omega | split)
                have f0 : H4 0 = zwr H 0 (k : Int) (sAt L s) 0 := by rw [a3, a2, a1, zwr_row rfl, zwr_row rfl]
                have f1 : H4 1 = zwr (zwr H 0 (k : Int) (sAt L s)) 1 (k : Int) (s : Int) 1 := by rw [b3, b2, b1, zwr_row rfl]
                have f3 : H4 3 1 = k := by rw [c3, c2, c1, zwr_i (by decide), zwr_row rfl, zwr_row rfl, hk]
                have f2 : ∀ i : Int, i < 3 * (k : Int) → H4 2 i = H 2 i := fun i hi => by rw [o3 i (by omega), o2 i (by omega), o1 i (by omega), zwr_row rfl, zwr_row rfl, zwr_row rfl]
                exact ⟨by rw [if_neg (by omega)], H4, ⟨f3, by rw [hwv, if_neg (by omega)]; omega, fun z => by omega, fun j j0 j1 => ⟨by rw [f0]; exact zwr_i (by omega), by rw [f1]; exact (zwr_i (by omega)).trans (zwr_r (by decide))⟩, f2⟩, rfl⟩
    · refine Y_iload_1 i_X10_statement_17 ?_
      refine X_bipush i_X10_statement_18 (by decide +kernel) ?_
      refine X_icmp_eq i_X10_statement_20 (tgt := 43) rfl ⟨by omega, by omega⟩ ⟨by omega, by omega⟩ (fun h20 => ?_) (fun h20 => ?_)
      · refine Y_aload_0 i_X10_statement_43 ?_
        refine X_getR i_X10_statement_44 f_X10_34 rfl ?_
        refine Y_aload_0 i_X10_statement_47 ?_
        refine Y_getI i_X10_statement_48 f_X10_90 rfl (zg0 _ _ _ _ _) ?_
        rw [hk]
        refine Y_iload_1 i_X10_statement_51 ?_
        refine Y_iast i_X10_statement_52 rfl ⟨by omega, by omega⟩ rfl (zp0 _ _ _ _ _ _) ?_
        refine Y_aload_0 i_X10_statement_53 ?_
        refine X_getR i_X10_statement_54 f_X10_37 rfl ?_
        refine Y_aload_0 i_X10_statement_57 ?_
        refine Y_getI i_X10_statement_58 f_X10_90 rfl (zga (zr1 rfl rfl)) ?_
        rw [hk]
        refine Y_aload_0 i_X10_statement_61 ?_
        refine Y_getI i_X10_statement_62 f_X10_79 rfl (zga (zr1 rfl rfl)) ?_
        rw [hs]
        refine Y_iast i_X10_statement_65 rfl ⟨by omega, by omega⟩ rfl (zp0 _ _ _ _ _ _) ?_
        refine Y_aload_0 i_X10_statement_66 ?_
        refine X_dup i_X10_statement_67 rfl ?_
        refine Y_getI i_X10_statement_68 f_X10_79 rfl (zga (zr1 rfl (zr1 rfl rfl))) ?_
        rw [hs]
        refine X_iconst i_X10_statement_71 ?_
        refine X_iadd i_X10_statement_72 ?_
        refine Y_putI i_X10_statement_73 f_X10_79 rfl t_7_17 (zp0 _ _ _ _ _ _) ?_
        refine X_iconst i_X10_statement_76 ?_
        refine Y_aload_0 i_X10_statement_77 ?_
        refine Y_getI i_X10_statement_78 f_X10_90 rfl (zga (zr2 (by decide) (zr1 rfl (zr1 rfl rfl)))) ?_
        rw [hk]
        refine X_imul i_X10_statement_81 ?_
        refine Y_istore_2 i_X10_statement_82 rfl rfl ?_
        refine Y_iload_1 i_X10_statement_83 ?_
        refine X_bipush i_X10_statement_84 (by decide +kernel) ?_
        refine Y_icmp_ne i_X10_statement_86 (tgt := 128) rfl ⟨by omega, by omega⟩ ⟨by omega, by omega⟩ (fun h86 => ?_) (fun h86 => ?_)
        · refine Y_aload_0 i_X10_statement_128 ?_
          refine Y_iload_2 i_X10_statement_129 ?_
          refine Y_iload_1 i_X10_statement_130 ?_
          refine X_bipush i_X10_statement_131 (by decide +kernel) ?_
          refine Y_icmp_ne i_X10_statement_133 (tgt := 140) rfl ⟨by omega, by omega⟩ ⟨by omega, by omega⟩ (fun h133 => ?_) (fun h133 => ?_)
          · refine X_iconst i_X10_statement_140 ?_
            refine Y_callVq (k' := kX10_readsDigits) i_X10_statement_141 l_X10_93 m_X10_readsDigits (c_X10_digits1 hL2 hL (x := (s : Int) + 1) (y := 3 * (k : Int)) zr0 (by omega) (by omega) (by omega) (by omega)) rfl rfl rfl rfl rfl ?_
            intro r9 M9 hr9
            obtain ⟨rfl, H2, ⟨a1, b1, c1, d1, o1, v1⟩, rfl⟩ := hr9
            refine X_tl ?_
            refine Y_istore_3 i_X10_statement_144 rfl rfl ?_
            refine Y_iload_3 i_X10_statement_145 ?_
            refine X_if_eq i_X10_statement_146 (tgt := 158) rfl (zrB _) (fun h146 => ?_) (fun h146 => ?_)
            · refine X_iconst i_X10_statement_158 ?_
              refine X_zret i_X10_statement_159 rfl (by omega) ?_
              have hw := sWf_o (L := L) (s := s) (by omega)
              have hdk := zrB0 h146
              have hwv : sWf L s = (s : Int) + 1 + (sDk L ((s : Int) + 1) 1 : Nat) := by rw [hw]; repeat (first | omega | split)
              have f0 : H2 0 = zwr H 0 (k : Int) (sAt L s) 0 := by rw [a1, zwr_row rfl, zwr_row rfl]
              have f1 : H2 1 = zwr (zwr H 0 (k : Int) (sAt L s)) 1 (k : Int) (s : Int) 1 := by rw [b1, zwr_row rfl]
              have f3 : H2 3 1 = k := by rw [c1, zwr_i (by decide), zwr_row rfl, zwr_row rfl, hk]
              have f2 : ∀ i : Int, i < 3 * (k : Int) → H2 2 i = H 2 i := fun i hi => by rw [o1 i (by omega), zwr_row rfl, zwr_row rfl, zwr_row rfl]
              exact ⟨by rw [if_neg (by omega)], H2, ⟨f3, by rw [hwv, if_neg (by omega)]; omega, fun z => by omega, fun j j0 j1 => ⟨by rw [f0]; exact zwr_i (by omega), by rw [f1]; exact (zwr_i (by omega)).trans (zwr_r (by decide))⟩, f2⟩, rfl⟩
            · refine Y_aload_0 i_X10_statement_149 ?_
              refine Y_callV (k' := kX10_next) i_X10_statement_150 l_X10_82 m_X10_next (c_X10_next (x := (s : Int) + 2) (zs_self _ _ _) (by rw [zs_ne (by decide)]; exact hL2) hL (by rw [d1, zrB1 h146]; omega) (by omega) (by omega)) rfl rfl rfl rfl rfl ?_
              refine X_bipush i_X10_statement_153 (by decide +kernel) ?_
              refine X_icmp_eq i_X10_statement_155 (tgt := 160) rfl ⟨by omega, by omega⟩ ⟨by omega, by omega⟩ (fun h155 => ?_) (fun h155 => ?_)
              · refine Y_aload_0 i_X10_statement_160 ?_
                refine X_dup i_X10_statement_161 rfl ?_
                refine Y_getI i_X10_statement_162 f_X10_79 rfl (zg0 _ _ _ _ _) ?_
                rw [d1, zrB1 h146]
                refine X_iconst i_X10_statement_165 ?_
                refine X_iadd i_X10_statement_166 ?_
                refine Y_putI i_X10_statement_167 f_X10_79 rfl t_7_17 (zp0 _ _ _ _ _ _) ?_
                refine X_iconst i_X10_statement_170 ?_
                refine X_zret i_X10_statement_171 rfl (by omega) ?_
                have hw := sWf_o (L := L) (s := s) (by omega)
                have hdk := zrB1 h146
                have hwv : sWf L s = -1 := by rw [hw]; repeat (first | omega | split)
                have f0 : H2 0 = zwr H 0 (k : Int) (sAt L s) 0 := by rw [a1, zwr_row rfl, zwr_row rfl]
                have f1 : H2 1 = zwr (zwr H 0 (k : Int) (sAt L s)) 1 (k : Int) (s : Int) 1 := by rw [b1, zwr_row rfl]
                have f3 : H2 3 1 = k := by rw [c1, zwr_i (by decide), zwr_row rfl, zwr_row rfl, hk]
                have f2 : ∀ i : Int, i < 3 * (k : Int) → H2 2 i = H 2 i := fun i hi => by rw [o1 i (by omega), zwr_row rfl, zwr_row rfl, zwr_row rfl]
                have hln : sLn (sAt L s) = 3 := by rcases (by omega : sAt L s = 114 ∨ sAt L s = 111 ∨ sAt L s = 99 ∨ sAt L s = 117) with e | e | e | e <;> rw [e] <;> rfl
                exact ⟨by rw [if_pos (by omega)], _, ⟨by rw [zwr_i (by decide)]; exact f3, by rw [zr0, hwv, if_pos (by omega), hln]; omega, fun _ => zTl_w ⟨by rw [f0, zr0], by rw [f1, zr0], by rw [if_neg (by omega)]; exact v1 hdk, fun z => by omega⟩, fun j j0 j1 => by rw [zwr_row rfl, zwr_row rfl]; exact (fun j j0 j1 => ⟨by rw [f0]; exact zwr_i (by omega), by rw [f1]; exact (zwr_i (by omega)).trans (zwr_r (by decide))⟩) j j0 j1, fun i hi => by rw [zwr_row rfl]; exact f2 i hi⟩, rfl⟩
              · refine X_iconst i_X10_statement_158 ?_
                refine X_zret i_X10_statement_159 rfl (by omega) ?_
                have hw := sWf_o (L := L) (s := s) (by omega)
                have hdk := zrB1 h146
                have hwv : sWf L s = (s : Int) + 2 := by rw [hw]; repeat (first | omega | split)
                have f0 : H2 0 = zwr H 0 (k : Int) (sAt L s) 0 := by rw [a1, zwr_row rfl, zwr_row rfl]
                have f1 : H2 1 = zwr (zwr H 0 (k : Int) (sAt L s)) 1 (k : Int) (s : Int) 1 := by rw [b1, zwr_row rfl]
                have f3 : H2 3 1 = k := by rw [c1, zwr_i (by decide), zwr_row rfl, zwr_row rfl, hk]
                have f2 : ∀ i : Int, i < 3 * (k : Int) → H2 2 i = H 2 i := fun i hi => by rw [o1 i (by omega), zwr_row rfl, zwr_row rfl, zwr_row rfl]
                exact ⟨by rw [if_neg (by omega)], H2, ⟨f3, by rw [hwv, if_neg (by omega)]; omega, fun z => by omega, fun j j0 j1 => ⟨by rw [f0]; exact zwr_i (by omega), by rw [f1]; exact (zwr_i (by omega)).trans (zwr_r (by decide))⟩, f2⟩, rfl⟩
          · refine X_iconst i_X10_statement_136 ?_
            refine X_goto i_X10_statement_137 (tgt := 141) rfl ?_
            refine Y_callVq (k' := kX10_readsDigits) i_X10_statement_141 l_X10_93 m_X10_readsDigits (c_X10_digits2 hL2 hL (x := (s : Int) + 1) (y := 3 * (k : Int)) zr0 (by omega) (by omega) (by omega) (by omega)) rfl rfl rfl rfl rfl ?_
            intro r9 M9 hr9
            obtain ⟨rfl, H2, ⟨a1, b1, c1, d1, o1, v1⟩, rfl⟩ := hr9
            refine X_tl ?_
            refine Y_istore_3 i_X10_statement_144 rfl rfl ?_
            refine Y_iload_3 i_X10_statement_145 ?_
            refine X_if_eq i_X10_statement_146 (tgt := 158) rfl (zrB _) (fun h146 => ?_) (fun h146 => ?_)
            · refine X_iconst i_X10_statement_158 ?_
              refine X_zret i_X10_statement_159 rfl (by omega) ?_
              have hcb : sAt L s = 109 := by omega
              have hw := sWf_m hcb
              have hdk := zrB0 h146
              have hwv : sWf L s = (s : Int) + 1 + (sDk L ((s : Int) + 1) 2 : Nat) := by rw [hw]; repeat (first | omega | split)
              have f0 : H2 0 = zwr H 0 (k : Int) (sAt L s) 0 := by rw [a1, zwr_row rfl, zwr_row rfl]
              have f1 : H2 1 = zwr (zwr H 0 (k : Int) (sAt L s)) 1 (k : Int) (s : Int) 1 := by rw [b1, zwr_row rfl]
              have f3 : H2 3 1 = k := by rw [c1, zwr_i (by decide), zwr_row rfl, zwr_row rfl, hk]
              have f2 : ∀ i : Int, i < 3 * (k : Int) → H2 2 i = H 2 i := fun i hi => by rw [o1 i (by omega), zwr_row rfl, zwr_row rfl, zwr_row rfl]
              exact ⟨by rw [if_neg (by omega)], H2, ⟨f3, by rw [hwv, if_neg (by omega)]; omega, fun z => by omega, fun j j0 j1 => ⟨by rw [f0]; exact zwr_i (by omega), by rw [f1]; exact (zwr_i (by omega)).trans (zwr_r (by decide))⟩, f2⟩, rfl⟩
            · refine Y_aload_0 i_X10_statement_149 ?_
              refine Y_callV (k' := kX10_next) i_X10_statement_150 l_X10_82 m_X10_next (c_X10_next (x := (s : Int) + 3) (zs_self _ _ _) (by rw [zs_ne (by decide)]; exact hL2) hL (by rw [d1, zrB1 h146]; omega) (by omega) (by omega)) rfl rfl rfl rfl rfl ?_
              refine X_bipush i_X10_statement_153 (by decide +kernel) ?_
              refine X_icmp_eq i_X10_statement_155 (tgt := 160) rfl ⟨by omega, by omega⟩ ⟨by omega, by omega⟩ (fun h155 => ?_) (fun h155 => ?_)
              · refine Y_aload_0 i_X10_statement_160 ?_
                refine X_dup i_X10_statement_161 rfl ?_
                refine Y_getI i_X10_statement_162 f_X10_79 rfl (zg0 _ _ _ _ _) ?_
                rw [d1, zrB1 h146]
                refine X_iconst i_X10_statement_165 ?_
                refine X_iadd i_X10_statement_166 ?_
                refine Y_putI i_X10_statement_167 f_X10_79 rfl t_7_17 (zp0 _ _ _ _ _ _) ?_
                refine X_iconst i_X10_statement_170 ?_
                refine X_zret i_X10_statement_171 rfl (by omega) ?_
                have hcb : sAt L s = 109 := by omega
                have hw := sWf_m hcb
                have hdk := zrB1 h146
                have hwv : sWf L s = -1 := by rw [hw]; repeat (first | omega | split)
                have f0 : H2 0 = zwr H 0 (k : Int) (sAt L s) 0 := by rw [a1, zwr_row rfl, zwr_row rfl]
                have f1 : H2 1 = zwr (zwr H 0 (k : Int) (sAt L s)) 1 (k : Int) (s : Int) 1 := by rw [b1, zwr_row rfl]
                have f3 : H2 3 1 = k := by rw [c1, zwr_i (by decide), zwr_row rfl, zwr_row rfl, hk]
                have f2 : ∀ i : Int, i < 3 * (k : Int) → H2 2 i = H 2 i := fun i hi => by rw [o1 i (by omega), zwr_row rfl, zwr_row rfl, zwr_row rfl]
                have hln : sLn (sAt L s) = 4 := by rw [hcb]; rfl
                exact ⟨by rw [if_pos (by omega)], _, ⟨by rw [zwr_i (by decide)]; exact f3, by rw [zr0, hwv, if_pos (by omega), hln]; omega, fun _ => zTl_w ⟨by rw [f0, zr0], by rw [f1, zr0], by rw [if_pos (by omega)]; exact v1 hdk, fun z => by omega⟩, fun j j0 j1 => by rw [zwr_row rfl, zwr_row rfl]; exact (fun j j0 j1 => ⟨by rw [f0]; exact zwr_i (by omega), by rw [f1]; exact (zwr_i (by omega)).trans (zwr_r (by decide))⟩) j j0 j1, fun i hi => by rw [zwr_row rfl]; exact f2 i hi⟩, rfl⟩
              · refine X_iconst i_X10_statement_158 ?_
                refine X_zret i_X10_statement_159 rfl (by omega) ?_
                have hcb : sAt L s = 109 := by omega
                have hw := sWf_m hcb
                have hdk := zrB1 h146
                have hwv : sWf L s = (s : Int) + 3 := by rw [hw]; repeat (first | omega | split)
                have f0 : H2 0 = zwr H 0 (k : Int) (sAt L s) 0 := by rw [a1, zwr_row rfl, zwr_row rfl]
                have f1 : H2 1 = zwr (zwr H 0 (k : Int) (sAt L s)) 1 (k : Int) (s : Int) 1 := by rw [b1, zwr_row rfl]
                have f3 : H2 3 1 = k := by rw [c1, zwr_i (by decide), zwr_row rfl, zwr_row rfl, hk]
                have f2 : ∀ i : Int, i < 3 * (k : Int) → H2 2 i = H 2 i := fun i hi => by rw [o1 i (by omega), zwr_row rfl, zwr_row rfl, zwr_row rfl]
                exact ⟨by rw [if_neg (by omega)], H2, ⟨f3, by rw [hwv, if_neg (by omega)]; omega, fun z => by omega, fun j j0 j1 => ⟨by rw [f0]; exact zwr_i (by omega), by rw [f1]; exact (zwr_i (by omega)).trans (zwr_r (by decide))⟩, f2⟩, rfl⟩
        · refine Y_aload_0 i_X10_statement_89 ?_
          refine Y_iload_2 i_X10_statement_90 ?_
          refine X_iconst i_X10_statement_91 ?_
          refine Y_callVq (k' := kX10_readsDigits) i_X10_statement_92 l_X10_93 m_X10_readsDigits (c_X10_digits1 hL2 hL (x := (s : Int) + 1) (y := 3 * (k : Int)) zr0 (by omega) (by omega) (by omega) (by omega)) rfl rfl rfl rfl rfl ?_
          intro r9 M9 hr9
          obtain ⟨rfl, H2, ⟨a1, b1, c1, d1, o1, v1⟩, rfl⟩ := hr9
          refine X_tl ?_
          refine Y_ifq_eq i_X10_statement_95 (tgt := 124) rfl  (fun h95 => ?_) (fun h95 => ?_)
          · refine X_iconst i_X10_statement_124 ?_
            refine X_goto i_X10_statement_125 (tgt := 144) rfl ?_
            refine Y_istore_3 i_X10_statement_144 rfl rfl ?_
            refine Y_iload_3 i_X10_statement_145 ?_
            refine X_if_eq i_X10_statement_146 (tgt := 158) rfl ⟨by omega, by omega⟩ (fun h146 => ?_) (fun h146 => by exfalso; omega)
            refine X_iconst i_X10_statement_158 ?_
            refine X_zret i_X10_statement_159 rfl (by omega) ?_
            have hcb : sAt L s = 103 := by omega
            have hw := sWf_g hcb
            have hwv : sWf L s = (s : Int) + 1 := by rw [hw]; repeat (first | omega | split)
            have f0 : H2 0 = zwr H 0 (k : Int) (sAt L s) 0 := by rw [a1, zwr_row rfl, zwr_row rfl]
            have f1 : H2 1 = zwr (zwr H 0 (k : Int) (sAt L s)) 1 (k : Int) (s : Int) 1 := by rw [b1, zwr_row rfl]
            have f3 : H2 3 1 = k := by rw [c1, zwr_i (by decide), zwr_row rfl, zwr_row rfl, hk]
            have f2 : ∀ i : Int, i < 3 * (k : Int) → H2 2 i = H 2 i := fun i hi => by rw [o1 i (by omega), zwr_row rfl, zwr_row rfl, zwr_row rfl]
            exact ⟨by rw [if_neg (by omega)], H2, ⟨f3, by rw [hwv, if_neg (by omega)]; omega, fun z => by omega, fun j j0 j1 => ⟨by rw [f0]; exact zwr_i (by omega), by rw [f1]; exact (zwr_i (by omega)).trans (zwr_r (by decide))⟩, f2⟩, rfl⟩
          · refine Y_aload_0 i_X10_statement_98 ?_
            refine Y_iload_2 i_X10_statement_99 ?_
            refine X_iconst i_X10_statement_100 ?_
            refine X_iadd i_X10_statement_101 ?_
            refine X_iconst i_X10_statement_102 ?_
            refine Y_callVq (k' := kX10_readsDigits) i_X10_statement_103 l_X10_93 m_X10_readsDigits (c_X10_digits1 hL2 hL (x := (s : Int) + 2) (y := 3 * (k : Int) + 1) (by rw [d1, h95]; omega) (by omega) (by omega) (by omega) (by omega)) rfl rfl rfl rfl rfl ?_
            intro r9 M9 hr9
            obtain ⟨rfl, H3, ⟨a2, b2, c2, d2, o2, v2⟩, rfl⟩ := hr9
            refine X_tl ?_
            refine Y_ifq_eq i_X10_statement_106 (tgt := 124) rfl  (fun h106 => ?_) (fun h106 => ?_)
            · refine X_iconst i_X10_statement_124 ?_
              refine X_goto i_X10_statement_125 (tgt := 144) rfl ?_
              refine Y_istore_3 i_X10_statement_144 rfl rfl ?_
              refine Y_iload_3 i_X10_statement_145 ?_
              refine X_if_eq i_X10_statement_146 (tgt := 158) rfl ⟨by omega, by omega⟩ (fun h146 => ?_) (fun h146 => by exfalso; omega)
              refine X_iconst i_X10_statement_158 ?_
              refine X_zret i_X10_statement_159 rfl (by omega) ?_
              have hcb : sAt L s = 103 := by omega
              have hw := sWf_g hcb
              have hwv : sWf L s = (s : Int) + 2 := by rw [hw]; repeat (first | omega | split)
              have f0 : H3 0 = zwr H 0 (k : Int) (sAt L s) 0 := by rw [a2, a1, zwr_row rfl, zwr_row rfl]
              have f1 : H3 1 = zwr (zwr H 0 (k : Int) (sAt L s)) 1 (k : Int) (s : Int) 1 := by rw [b2, b1, zwr_row rfl]
              have f3 : H3 3 1 = k := by rw [c2, c1, zwr_i (by decide), zwr_row rfl, zwr_row rfl, hk]
              have f2 : ∀ i : Int, i < 3 * (k : Int) → H3 2 i = H 2 i := fun i hi => by rw [o2 i (by omega), o1 i (by omega), zwr_row rfl, zwr_row rfl, zwr_row rfl]
              exact ⟨by rw [if_neg (by omega)], H3, ⟨f3, by rw [hwv, if_neg (by omega)]; omega, fun z => by omega, fun j j0 j1 => ⟨by rw [f0]; exact zwr_i (by omega), by rw [f1]; exact (zwr_i (by omega)).trans (zwr_r (by decide))⟩, f2⟩, rfl⟩
            · refine Y_aload_0 i_X10_statement_109 ?_
              refine Y_iload_2 i_X10_statement_110 ?_
              refine X_iconst i_X10_statement_111 ?_
              refine X_iadd i_X10_statement_112 ?_
              refine X_iconst i_X10_statement_113 ?_
              refine Y_callVq (k' := kX10_readsDigits) i_X10_statement_114 l_X10_93 m_X10_readsDigits (c_X10_digits2 hL2 hL (x := (s : Int) + 3) (y := 3 * (k : Int) + 2) (by rw [d2, h106]; omega) (by omega) (by omega) (by omega) (by omega)) rfl rfl rfl rfl rfl ?_
              intro r9 M9 hr9
              obtain ⟨rfl, H4, ⟨a3, b3, c3, d3, o3, v3⟩, rfl⟩ := hr9
              refine X_tl ?_
              refine Y_ifq_eq i_X10_statement_117 (tgt := 124) rfl  (fun h117 => ?_) (fun h117 => ?_)
              · refine X_iconst i_X10_statement_124 ?_
                refine X_goto i_X10_statement_125 (tgt := 144) rfl ?_
                refine Y_istore_3 i_X10_statement_144 rfl rfl ?_
                refine Y_iload_3 i_X10_statement_145 ?_
                refine X_if_eq i_X10_statement_146 (tgt := 158) rfl ⟨by omega, by omega⟩ (fun h146 => ?_) (fun h146 => by exfalso; omega)
                refine X_iconst i_X10_statement_158 ?_
                refine X_zret i_X10_statement_159 rfl (by omega) ?_
                have hcb : sAt L s = 103 := by omega
                have hw := sWf_g hcb
                have hwv : sWf L s = (s : Int) + 3 + (sDk L ((s : Int) + 3) 2 : Nat) := by rw [hw]; repeat (first | omega | split)
                have f0 : H4 0 = zwr H 0 (k : Int) (sAt L s) 0 := by rw [a3, a2, a1, zwr_row rfl, zwr_row rfl]
                have f1 : H4 1 = zwr (zwr H 0 (k : Int) (sAt L s)) 1 (k : Int) (s : Int) 1 := by rw [b3, b2, b1, zwr_row rfl]
                have f3 : H4 3 1 = k := by rw [c3, c2, c1, zwr_i (by decide), zwr_row rfl, zwr_row rfl, hk]
                have f2 : ∀ i : Int, i < 3 * (k : Int) → H4 2 i = H 2 i := fun i hi => by rw [o3 i (by omega), o2 i (by omega), o1 i (by omega), zwr_row rfl, zwr_row rfl, zwr_row rfl]
                exact ⟨by rw [if_neg (by omega)], H4, ⟨f3, by rw [hwv, if_neg (by omega)]; omega, fun z => by omega, fun j j0 j1 => ⟨by rw [f0]; exact zwr_i (by omega), by rw [f1]; exact (zwr_i (by omega)).trans (zwr_r (by decide))⟩, f2⟩, rfl⟩
              · refine X_iconst i_X10_statement_120 ?_
                refine X_goto i_X10_statement_121 (tgt := 144) rfl ?_
                refine Y_istore_3 i_X10_statement_144 rfl rfl ?_
                refine Y_iload_3 i_X10_statement_145 ?_
                refine X_if_eq i_X10_statement_146 (tgt := 158) rfl ⟨by omega, by omega⟩ (fun h146 => by exfalso; omega) (fun h146 => ?_)
                refine Y_aload_0 i_X10_statement_149 ?_
                refine Y_callV (k' := kX10_next) i_X10_statement_150 l_X10_82 m_X10_next (c_X10_next (x := (s : Int) + 5) (zs_self _ _ _) (by rw [zs_ne (by decide)]; exact hL2) hL (by rw [d3, h117]; omega) (by omega) (by omega)) rfl rfl rfl rfl rfl ?_
                refine X_bipush i_X10_statement_153 (by decide +kernel) ?_
                refine X_icmp_eq i_X10_statement_155 (tgt := 160) rfl ⟨by omega, by omega⟩ ⟨by omega, by omega⟩ (fun h155 => ?_) (fun h155 => ?_)
                · refine Y_aload_0 i_X10_statement_160 ?_
                  refine X_dup i_X10_statement_161 rfl ?_
                  refine Y_getI i_X10_statement_162 f_X10_79 rfl (zg0 _ _ _ _ _) ?_
                  rw [d3, h117]
                  refine X_iconst i_X10_statement_165 ?_
                  refine X_iadd i_X10_statement_166 ?_
                  refine Y_putI i_X10_statement_167 f_X10_79 rfl t_7_17 (zp0 _ _ _ _ _ _) ?_
                  refine X_iconst i_X10_statement_170 ?_
                  refine X_zret i_X10_statement_171 rfl (by omega) ?_
                  have hcb : sAt L s = 103 := by omega
                  have hw := sWf_g hcb
                  have hwv : sWf L s = -1 := by rw [hw]; repeat (first | omega | split)
                  have f0 : H4 0 = zwr H 0 (k : Int) (sAt L s) 0 := by rw [a3, a2, a1, zwr_row rfl, zwr_row rfl]
                  have f1 : H4 1 = zwr (zwr H 0 (k : Int) (sAt L s)) 1 (k : Int) (s : Int) 1 := by rw [b3, b2, b1, zwr_row rfl]
                  have f3 : H4 3 1 = k := by rw [c3, c2, c1, zwr_i (by decide), zwr_row rfl, zwr_row rfl, hk]
                  have f2 : ∀ i : Int, i < 3 * (k : Int) → H4 2 i = H 2 i := fun i hi => by rw [o3 i (by omega), o2 i (by omega), o1 i (by omega), zwr_row rfl, zwr_row rfl, zwr_row rfl]
                  have hln : sLn (sAt L s) = 6 := by rw [hcb]; rfl
                  exact ⟨by rw [if_pos (by omega)], _, ⟨by rw [zwr_i (by decide)]; exact f3, by rw [zr0, hwv, if_pos (by omega), hln]; omega, fun _ => zTl_w ⟨by rw [f0, zr0], by rw [f1, zr0], by rw [if_neg (by omega), o3 _ (by omega), o2 _ (by omega)]; exact v1 h95, fun _ => ⟨by rw [o3 _ (by omega)]; exact v2 h106, v3 h117⟩⟩, fun j j0 j1 => by rw [zwr_row rfl, zwr_row rfl]; exact (fun j j0 j1 => ⟨by rw [f0]; exact zwr_i (by omega), by rw [f1]; exact (zwr_i (by omega)).trans (zwr_r (by decide))⟩) j j0 j1, fun i hi => by rw [zwr_row rfl]; exact f2 i hi⟩, rfl⟩
                · refine X_iconst i_X10_statement_158 ?_
                  refine X_zret i_X10_statement_159 rfl (by omega) ?_
                  have hcb : sAt L s = 103 := by omega
                  have hw := sWf_g hcb
                  have hwv : sWf L s = (s : Int) + 5 := by rw [hw]; repeat (first | omega | split)
                  have f0 : H4 0 = zwr H 0 (k : Int) (sAt L s) 0 := by rw [a3, a2, a1, zwr_row rfl, zwr_row rfl]
                  have f1 : H4 1 = zwr (zwr H 0 (k : Int) (sAt L s)) 1 (k : Int) (s : Int) 1 := by rw [b3, b2, b1, zwr_row rfl]
                  have f3 : H4 3 1 = k := by rw [c3, c2, c1, zwr_i (by decide), zwr_row rfl, zwr_row rfl, hk]
                  have f2 : ∀ i : Int, i < 3 * (k : Int) → H4 2 i = H 2 i := fun i hi => by rw [o3 i (by omega), o2 i (by omega), o1 i (by omega), zwr_row rfl, zwr_row rfl, zwr_row rfl]
                  exact ⟨by rw [if_neg (by omega)], H4, ⟨f3, by rw [hwv, if_neg (by omega)]; omega, fun z => by omega, fun j j0 j1 => ⟨by rw [f0]; exact zwr_i (by omega), by rw [f1]; exact (zwr_i (by omega)).trans (zwr_r (by decide))⟩, f2⟩, rfl⟩
      · refine Y_iload_1 i_X10_statement_23 ?_
        refine X_bipush i_X10_statement_24 (by decide +kernel) ?_
        refine X_icmp_eq i_X10_statement_26 (tgt := 43) rfl ⟨by omega, by omega⟩ ⟨by omega, by omega⟩ (fun h26 => ?_) (fun h26 => ?_)
        · refine Y_aload_0 i_X10_statement_43 ?_
          refine X_getR i_X10_statement_44 f_X10_34 rfl ?_
          refine Y_aload_0 i_X10_statement_47 ?_
          refine Y_getI i_X10_statement_48 f_X10_90 rfl (zg0 _ _ _ _ _) ?_
          rw [hk]
          refine Y_iload_1 i_X10_statement_51 ?_
          refine Y_iast i_X10_statement_52 rfl ⟨by omega, by omega⟩ rfl (zp0 _ _ _ _ _ _) ?_
          refine Y_aload_0 i_X10_statement_53 ?_
          refine X_getR i_X10_statement_54 f_X10_37 rfl ?_
          refine Y_aload_0 i_X10_statement_57 ?_
          refine Y_getI i_X10_statement_58 f_X10_90 rfl (zga (zr1 rfl rfl)) ?_
          rw [hk]
          refine Y_aload_0 i_X10_statement_61 ?_
          refine Y_getI i_X10_statement_62 f_X10_79 rfl (zga (zr1 rfl rfl)) ?_
          rw [hs]
          refine Y_iast i_X10_statement_65 rfl ⟨by omega, by omega⟩ rfl (zp0 _ _ _ _ _ _) ?_
          refine Y_aload_0 i_X10_statement_66 ?_
          refine X_dup i_X10_statement_67 rfl ?_
          refine Y_getI i_X10_statement_68 f_X10_79 rfl (zga (zr1 rfl (zr1 rfl rfl))) ?_
          rw [hs]
          refine X_iconst i_X10_statement_71 ?_
          refine X_iadd i_X10_statement_72 ?_
          refine Y_putI i_X10_statement_73 f_X10_79 rfl t_7_17 (zp0 _ _ _ _ _ _) ?_
          refine X_iconst i_X10_statement_76 ?_
          refine Y_aload_0 i_X10_statement_77 ?_
          refine Y_getI i_X10_statement_78 f_X10_90 rfl (zga (zr2 (by decide) (zr1 rfl (zr1 rfl rfl)))) ?_
          rw [hk]
          refine X_imul i_X10_statement_81 ?_
          refine Y_istore_2 i_X10_statement_82 rfl rfl ?_
          refine Y_iload_1 i_X10_statement_83 ?_
          refine X_bipush i_X10_statement_84 (by decide +kernel) ?_
          refine Y_icmp_ne i_X10_statement_86 (tgt := 128) rfl ⟨by omega, by omega⟩ ⟨by omega, by omega⟩ (fun h86 => ?_) (fun h86 => ?_)
          · refine Y_aload_0 i_X10_statement_128 ?_
            refine Y_iload_2 i_X10_statement_129 ?_
            refine Y_iload_1 i_X10_statement_130 ?_
            refine X_bipush i_X10_statement_131 (by decide +kernel) ?_
            refine Y_icmp_ne i_X10_statement_133 (tgt := 140) rfl ⟨by omega, by omega⟩ ⟨by omega, by omega⟩ (fun h133 => ?_) (fun h133 => ?_)
            · refine X_iconst i_X10_statement_140 ?_
              refine Y_callVq (k' := kX10_readsDigits) i_X10_statement_141 l_X10_93 m_X10_readsDigits (c_X10_digits1 hL2 hL (x := (s : Int) + 1) (y := 3 * (k : Int)) zr0 (by omega) (by omega) (by omega) (by omega)) rfl rfl rfl rfl rfl ?_
              intro r9 M9 hr9
              obtain ⟨rfl, H2, ⟨a1, b1, c1, d1, o1, v1⟩, rfl⟩ := hr9
              refine X_tl ?_
              refine Y_istore_3 i_X10_statement_144 rfl rfl ?_
              refine Y_iload_3 i_X10_statement_145 ?_
              refine X_if_eq i_X10_statement_146 (tgt := 158) rfl (zrB _) (fun h146 => ?_) (fun h146 => ?_)
              · refine X_iconst i_X10_statement_158 ?_
                refine X_zret i_X10_statement_159 rfl (by omega) ?_
                have hw := sWf_o (L := L) (s := s) (by omega)
                have hdk := zrB0 h146
                have hwv : sWf L s = (s : Int) + 1 + (sDk L ((s : Int) + 1) 1 : Nat) := by rw [hw]; repeat (first | omega | split)
                have f0 : H2 0 = zwr H 0 (k : Int) (sAt L s) 0 := by rw [a1, zwr_row rfl, zwr_row rfl]
                have f1 : H2 1 = zwr (zwr H 0 (k : Int) (sAt L s)) 1 (k : Int) (s : Int) 1 := by rw [b1, zwr_row rfl]
                have f3 : H2 3 1 = k := by rw [c1, zwr_i (by decide), zwr_row rfl, zwr_row rfl, hk]
                have f2 : ∀ i : Int, i < 3 * (k : Int) → H2 2 i = H 2 i := fun i hi => by rw [o1 i (by omega), zwr_row rfl, zwr_row rfl, zwr_row rfl]
                exact ⟨by rw [if_neg (by omega)], H2, ⟨f3, by rw [hwv, if_neg (by omega)]; omega, fun z => by omega, fun j j0 j1 => ⟨by rw [f0]; exact zwr_i (by omega), by rw [f1]; exact (zwr_i (by omega)).trans (zwr_r (by decide))⟩, f2⟩, rfl⟩
              · refine Y_aload_0 i_X10_statement_149 ?_
                refine Y_callV (k' := kX10_next) i_X10_statement_150 l_X10_82 m_X10_next (c_X10_next (x := (s : Int) + 2) (zs_self _ _ _) (by rw [zs_ne (by decide)]; exact hL2) hL (by rw [d1, zrB1 h146]; omega) (by omega) (by omega)) rfl rfl rfl rfl rfl ?_
                refine X_bipush i_X10_statement_153 (by decide +kernel) ?_
                refine X_icmp_eq i_X10_statement_155 (tgt := 160) rfl ⟨by omega, by omega⟩ ⟨by omega, by omega⟩ (fun h155 => ?_) (fun h155 => ?_)
                · refine Y_aload_0 i_X10_statement_160 ?_
                  refine X_dup i_X10_statement_161 rfl ?_
                  refine Y_getI i_X10_statement_162 f_X10_79 rfl (zg0 _ _ _ _ _) ?_
                  rw [d1, zrB1 h146]
                  refine X_iconst i_X10_statement_165 ?_
                  refine X_iadd i_X10_statement_166 ?_
                  refine Y_putI i_X10_statement_167 f_X10_79 rfl t_7_17 (zp0 _ _ _ _ _ _) ?_
                  refine X_iconst i_X10_statement_170 ?_
                  refine X_zret i_X10_statement_171 rfl (by omega) ?_
                  have hw := sWf_o (L := L) (s := s) (by omega)
                  have hdk := zrB1 h146
                  have hwv : sWf L s = -1 := by rw [hw]; repeat (first | omega | split)
                  have f0 : H2 0 = zwr H 0 (k : Int) (sAt L s) 0 := by rw [a1, zwr_row rfl, zwr_row rfl]
                  have f1 : H2 1 = zwr (zwr H 0 (k : Int) (sAt L s)) 1 (k : Int) (s : Int) 1 := by rw [b1, zwr_row rfl]
                  have f3 : H2 3 1 = k := by rw [c1, zwr_i (by decide), zwr_row rfl, zwr_row rfl, hk]
                  have f2 : ∀ i : Int, i < 3 * (k : Int) → H2 2 i = H 2 i := fun i hi => by rw [o1 i (by omega), zwr_row rfl, zwr_row rfl, zwr_row rfl]
                  have hln : sLn (sAt L s) = 3 := by rcases (by omega : sAt L s = 114 ∨ sAt L s = 111 ∨ sAt L s = 99 ∨ sAt L s = 117) with e | e | e | e <;> rw [e] <;> rfl
                  exact ⟨by rw [if_pos (by omega)], _, ⟨by rw [zwr_i (by decide)]; exact f3, by rw [zr0, hwv, if_pos (by omega), hln]; omega, fun _ => zTl_w ⟨by rw [f0, zr0], by rw [f1, zr0], by rw [if_neg (by omega)]; exact v1 hdk, fun z => by omega⟩, fun j j0 j1 => by rw [zwr_row rfl, zwr_row rfl]; exact (fun j j0 j1 => ⟨by rw [f0]; exact zwr_i (by omega), by rw [f1]; exact (zwr_i (by omega)).trans (zwr_r (by decide))⟩) j j0 j1, fun i hi => by rw [zwr_row rfl]; exact f2 i hi⟩, rfl⟩
                · refine X_iconst i_X10_statement_158 ?_
                  refine X_zret i_X10_statement_159 rfl (by omega) ?_
                  have hw := sWf_o (L := L) (s := s) (by omega)
                  have hdk := zrB1 h146
                  have hwv : sWf L s = (s : Int) + 2 := by rw [hw]; repeat (first | omega | split)
                  have f0 : H2 0 = zwr H 0 (k : Int) (sAt L s) 0 := by rw [a1, zwr_row rfl, zwr_row rfl]
                  have f1 : H2 1 = zwr (zwr H 0 (k : Int) (sAt L s)) 1 (k : Int) (s : Int) 1 := by rw [b1, zwr_row rfl]
                  have f3 : H2 3 1 = k := by rw [c1, zwr_i (by decide), zwr_row rfl, zwr_row rfl, hk]
                  have f2 : ∀ i : Int, i < 3 * (k : Int) → H2 2 i = H 2 i := fun i hi => by rw [o1 i (by omega), zwr_row rfl, zwr_row rfl, zwr_row rfl]
                  exact ⟨by rw [if_neg (by omega)], H2, ⟨f3, by rw [hwv, if_neg (by omega)]; omega, fun z => by omega, fun j j0 j1 => ⟨by rw [f0]; exact zwr_i (by omega), by rw [f1]; exact (zwr_i (by omega)).trans (zwr_r (by decide))⟩, f2⟩, rfl⟩
            · refine X_iconst i_X10_statement_136 ?_
              refine X_goto i_X10_statement_137 (tgt := 141) rfl ?_
              refine Y_callVq (k' := kX10_readsDigits) i_X10_statement_141 l_X10_93 m_X10_readsDigits (c_X10_digits2 hL2 hL (x := (s : Int) + 1) (y := 3 * (k : Int)) zr0 (by omega) (by omega) (by omega) (by omega)) rfl rfl rfl rfl rfl ?_
              intro r9 M9 hr9
              obtain ⟨rfl, H2, ⟨a1, b1, c1, d1, o1, v1⟩, rfl⟩ := hr9
              refine X_tl ?_
              refine Y_istore_3 i_X10_statement_144 rfl rfl ?_
              refine Y_iload_3 i_X10_statement_145 ?_
              refine X_if_eq i_X10_statement_146 (tgt := 158) rfl (zrB _) (fun h146 => ?_) (fun h146 => ?_)
              · refine X_iconst i_X10_statement_158 ?_
                refine X_zret i_X10_statement_159 rfl (by omega) ?_
                have hcb : sAt L s = 109 := by omega
                have hw := sWf_m hcb
                have hdk := zrB0 h146
                have hwv : sWf L s = (s : Int) + 1 + (sDk L ((s : Int) + 1) 2 : Nat) := by rw [hw]; repeat (first | omega | split)
                have f0 : H2 0 = zwr H 0 (k : Int) (sAt L s) 0 := by rw [a1, zwr_row rfl, zwr_row rfl]
                have f1 : H2 1 = zwr (zwr H 0 (k : Int) (sAt L s)) 1 (k : Int) (s : Int) 1 := by rw [b1, zwr_row rfl]
                have f3 : H2 3 1 = k := by rw [c1, zwr_i (by decide), zwr_row rfl, zwr_row rfl, hk]
                have f2 : ∀ i : Int, i < 3 * (k : Int) → H2 2 i = H 2 i := fun i hi => by rw [o1 i (by omega), zwr_row rfl, zwr_row rfl, zwr_row rfl]
                exact ⟨by rw [if_neg (by omega)], H2, ⟨f3, by rw [hwv, if_neg (by omega)]; omega, fun z => by omega, fun j j0 j1 => ⟨by rw [f0]; exact zwr_i (by omega), by rw [f1]; exact (zwr_i (by omega)).trans (zwr_r (by decide))⟩, f2⟩, rfl⟩
              · refine Y_aload_0 i_X10_statement_149 ?_
                refine Y_callV (k' := kX10_next) i_X10_statement_150 l_X10_82 m_X10_next (c_X10_next (x := (s : Int) + 3) (zs_self _ _ _) (by rw [zs_ne (by decide)]; exact hL2) hL (by rw [d1, zrB1 h146]; omega) (by omega) (by omega)) rfl rfl rfl rfl rfl ?_
                refine X_bipush i_X10_statement_153 (by decide +kernel) ?_
                refine X_icmp_eq i_X10_statement_155 (tgt := 160) rfl ⟨by omega, by omega⟩ ⟨by omega, by omega⟩ (fun h155 => ?_) (fun h155 => ?_)
                · refine Y_aload_0 i_X10_statement_160 ?_
                  refine X_dup i_X10_statement_161 rfl ?_
                  refine Y_getI i_X10_statement_162 f_X10_79 rfl (zg0 _ _ _ _ _) ?_
                  rw [d1, zrB1 h146]
                  refine X_iconst i_X10_statement_165 ?_
                  refine X_iadd i_X10_statement_166 ?_
                  refine Y_putI i_X10_statement_167 f_X10_79 rfl t_7_17 (zp0 _ _ _ _ _ _) ?_
                  refine X_iconst i_X10_statement_170 ?_
                  refine X_zret i_X10_statement_171 rfl (by omega) ?_
                  have hcb : sAt L s = 109 := by omega
                  have hw := sWf_m hcb
                  have hdk := zrB1 h146
                  have hwv : sWf L s = -1 := by rw [hw]; repeat (first | omega | split)
                  have f0 : H2 0 = zwr H 0 (k : Int) (sAt L s) 0 := by rw [a1, zwr_row rfl, zwr_row rfl]
                  have f1 : H2 1 = zwr (zwr H 0 (k : Int) (sAt L s)) 1 (k : Int) (s : Int) 1 := by rw [b1, zwr_row rfl]
                  have f3 : H2 3 1 = k := by rw [c1, zwr_i (by decide), zwr_row rfl, zwr_row rfl, hk]
                  have f2 : ∀ i : Int, i < 3 * (k : Int) → H2 2 i = H 2 i := fun i hi => by rw [o1 i (by omega), zwr_row rfl, zwr_row rfl, zwr_row rfl]
                  have hln : sLn (sAt L s) = 4 := by rw [hcb]; rfl
                  exact ⟨by rw [if_pos (by omega)], _, ⟨by rw [zwr_i (by decide)]; exact f3, by rw [zr0, hwv, if_pos (by omega), hln]; omega, fun _ => zTl_w ⟨by rw [f0, zr0], by rw [f1, zr0], by rw [if_pos (by omega)]; exact v1 hdk, fun z => by omega⟩, fun j j0 j1 => by rw [zwr_row rfl, zwr_row rfl]; exact (fun j j0 j1 => ⟨by rw [f0]; exact zwr_i (by omega), by rw [f1]; exact (zwr_i (by omega)).trans (zwr_r (by decide))⟩) j j0 j1, fun i hi => by rw [zwr_row rfl]; exact f2 i hi⟩, rfl⟩
                · refine X_iconst i_X10_statement_158 ?_
                  refine X_zret i_X10_statement_159 rfl (by omega) ?_
                  have hcb : sAt L s = 109 := by omega
                  have hw := sWf_m hcb
                  have hdk := zrB1 h146
                  have hwv : sWf L s = (s : Int) + 3 := by rw [hw]; repeat (first | omega | split)
                  have f0 : H2 0 = zwr H 0 (k : Int) (sAt L s) 0 := by rw [a1, zwr_row rfl, zwr_row rfl]
                  have f1 : H2 1 = zwr (zwr H 0 (k : Int) (sAt L s)) 1 (k : Int) (s : Int) 1 := by rw [b1, zwr_row rfl]
                  have f3 : H2 3 1 = k := by rw [c1, zwr_i (by decide), zwr_row rfl, zwr_row rfl, hk]
                  have f2 : ∀ i : Int, i < 3 * (k : Int) → H2 2 i = H 2 i := fun i hi => by rw [o1 i (by omega), zwr_row rfl, zwr_row rfl, zwr_row rfl]
                  exact ⟨by rw [if_neg (by omega)], H2, ⟨f3, by rw [hwv, if_neg (by omega)]; omega, fun z => by omega, fun j j0 j1 => ⟨by rw [f0]; exact zwr_i (by omega), by rw [f1]; exact (zwr_i (by omega)).trans (zwr_r (by decide))⟩, f2⟩, rfl⟩
          · refine Y_aload_0 i_X10_statement_89 ?_
            refine Y_iload_2 i_X10_statement_90 ?_
            refine X_iconst i_X10_statement_91 ?_
            refine Y_callVq (k' := kX10_readsDigits) i_X10_statement_92 l_X10_93 m_X10_readsDigits (c_X10_digits1 hL2 hL (x := (s : Int) + 1) (y := 3 * (k : Int)) zr0 (by omega) (by omega) (by omega) (by omega)) rfl rfl rfl rfl rfl ?_
            intro r9 M9 hr9
            obtain ⟨rfl, H2, ⟨a1, b1, c1, d1, o1, v1⟩, rfl⟩ := hr9
            refine X_tl ?_
            refine Y_ifq_eq i_X10_statement_95 (tgt := 124) rfl  (fun h95 => ?_) (fun h95 => ?_)
            · refine X_iconst i_X10_statement_124 ?_
              refine X_goto i_X10_statement_125 (tgt := 144) rfl ?_
              refine Y_istore_3 i_X10_statement_144 rfl rfl ?_
              refine Y_iload_3 i_X10_statement_145 ?_
              refine X_if_eq i_X10_statement_146 (tgt := 158) rfl ⟨by omega, by omega⟩ (fun h146 => ?_) (fun h146 => by exfalso; omega)
              refine X_iconst i_X10_statement_158 ?_
              refine X_zret i_X10_statement_159 rfl (by omega) ?_
              have hcb : sAt L s = 103 := by omega
              have hw := sWf_g hcb
              have hwv : sWf L s = (s : Int) + 1 := by rw [hw]; repeat (first | omega | split)
              have f0 : H2 0 = zwr H 0 (k : Int) (sAt L s) 0 := by rw [a1, zwr_row rfl, zwr_row rfl]
              have f1 : H2 1 = zwr (zwr H 0 (k : Int) (sAt L s)) 1 (k : Int) (s : Int) 1 := by rw [b1, zwr_row rfl]
              have f3 : H2 3 1 = k := by rw [c1, zwr_i (by decide), zwr_row rfl, zwr_row rfl, hk]
              have f2 : ∀ i : Int, i < 3 * (k : Int) → H2 2 i = H 2 i := fun i hi => by rw [o1 i (by omega), zwr_row rfl, zwr_row rfl, zwr_row rfl]
              exact ⟨by rw [if_neg (by omega)], H2, ⟨f3, by rw [hwv, if_neg (by omega)]; omega, fun z => by omega, fun j j0 j1 => ⟨by rw [f0]; exact zwr_i (by omega), by rw [f1]; exact (zwr_i (by omega)).trans (zwr_r (by decide))⟩, f2⟩, rfl⟩
            · refine Y_aload_0 i_X10_statement_98 ?_
              refine Y_iload_2 i_X10_statement_99 ?_
              refine X_iconst i_X10_statement_100 ?_
              refine X_iadd i_X10_statement_101 ?_
              refine X_iconst i_X10_statement_102 ?_
              refine Y_callVq (k' := kX10_readsDigits) i_X10_statement_103 l_X10_93 m_X10_readsDigits (c_X10_digits1 hL2 hL (x := (s : Int) + 2) (y := 3 * (k : Int) + 1) (by rw [d1, h95]; omega) (by omega) (by omega) (by omega) (by omega)) rfl rfl rfl rfl rfl ?_
              intro r9 M9 hr9
              obtain ⟨rfl, H3, ⟨a2, b2, c2, d2, o2, v2⟩, rfl⟩ := hr9
              refine X_tl ?_
              refine Y_ifq_eq i_X10_statement_106 (tgt := 124) rfl  (fun h106 => ?_) (fun h106 => ?_)
              · refine X_iconst i_X10_statement_124 ?_
                refine X_goto i_X10_statement_125 (tgt := 144) rfl ?_
                refine Y_istore_3 i_X10_statement_144 rfl rfl ?_
                refine Y_iload_3 i_X10_statement_145 ?_
                refine X_if_eq i_X10_statement_146 (tgt := 158) rfl ⟨by omega, by omega⟩ (fun h146 => ?_) (fun h146 => by exfalso; omega)
                refine X_iconst i_X10_statement_158 ?_
                refine X_zret i_X10_statement_159 rfl (by omega) ?_
                have hcb : sAt L s = 103 := by omega
                have hw := sWf_g hcb
                have hwv : sWf L s = (s : Int) + 2 := by rw [hw]; repeat (first | omega | split)
                have f0 : H3 0 = zwr H 0 (k : Int) (sAt L s) 0 := by rw [a2, a1, zwr_row rfl, zwr_row rfl]
                have f1 : H3 1 = zwr (zwr H 0 (k : Int) (sAt L s)) 1 (k : Int) (s : Int) 1 := by rw [b2, b1, zwr_row rfl]
                have f3 : H3 3 1 = k := by rw [c2, c1, zwr_i (by decide), zwr_row rfl, zwr_row rfl, hk]
                have f2 : ∀ i : Int, i < 3 * (k : Int) → H3 2 i = H 2 i := fun i hi => by rw [o2 i (by omega), o1 i (by omega), zwr_row rfl, zwr_row rfl, zwr_row rfl]
                exact ⟨by rw [if_neg (by omega)], H3, ⟨f3, by rw [hwv, if_neg (by omega)]; omega, fun z => by omega, fun j j0 j1 => ⟨by rw [f0]; exact zwr_i (by omega), by rw [f1]; exact (zwr_i (by omega)).trans (zwr_r (by decide))⟩, f2⟩, rfl⟩
              · refine Y_aload_0 i_X10_statement_109 ?_
                refine Y_iload_2 i_X10_statement_110 ?_
                refine X_iconst i_X10_statement_111 ?_
                refine X_iadd i_X10_statement_112 ?_
                refine X_iconst i_X10_statement_113 ?_
                refine Y_callVq (k' := kX10_readsDigits) i_X10_statement_114 l_X10_93 m_X10_readsDigits (c_X10_digits2 hL2 hL (x := (s : Int) + 3) (y := 3 * (k : Int) + 2) (by rw [d2, h106]; omega) (by omega) (by omega) (by omega) (by omega)) rfl rfl rfl rfl rfl ?_
                intro r9 M9 hr9
                obtain ⟨rfl, H4, ⟨a3, b3, c3, d3, o3, v3⟩, rfl⟩ := hr9
                refine X_tl ?_
                refine Y_ifq_eq i_X10_statement_117 (tgt := 124) rfl  (fun h117 => ?_) (fun h117 => ?_)
                · refine X_iconst i_X10_statement_124 ?_
                  refine X_goto i_X10_statement_125 (tgt := 144) rfl ?_
                  refine Y_istore_3 i_X10_statement_144 rfl rfl ?_
                  refine Y_iload_3 i_X10_statement_145 ?_
                  refine X_if_eq i_X10_statement_146 (tgt := 158) rfl ⟨by omega, by omega⟩ (fun h146 => ?_) (fun h146 => by exfalso; omega)
                  refine X_iconst i_X10_statement_158 ?_
                  refine X_zret i_X10_statement_159 rfl (by omega) ?_
                  have hcb : sAt L s = 103 := by omega
                  have hw := sWf_g hcb
                  have hwv : sWf L s = (s : Int) + 3 + (sDk L ((s : Int) + 3) 2 : Nat) := by rw [hw]; repeat (first | omega | split)
                  have f0 : H4 0 = zwr H 0 (k : Int) (sAt L s) 0 := by rw [a3, a2, a1, zwr_row rfl, zwr_row rfl]
                  have f1 : H4 1 = zwr (zwr H 0 (k : Int) (sAt L s)) 1 (k : Int) (s : Int) 1 := by rw [b3, b2, b1, zwr_row rfl]
                  have f3 : H4 3 1 = k := by rw [c3, c2, c1, zwr_i (by decide), zwr_row rfl, zwr_row rfl, hk]
                  have f2 : ∀ i : Int, i < 3 * (k : Int) → H4 2 i = H 2 i := fun i hi => by rw [o3 i (by omega), o2 i (by omega), o1 i (by omega), zwr_row rfl, zwr_row rfl, zwr_row rfl]
                  exact ⟨by rw [if_neg (by omega)], H4, ⟨f3, by rw [hwv, if_neg (by omega)]; omega, fun z => by omega, fun j j0 j1 => ⟨by rw [f0]; exact zwr_i (by omega), by rw [f1]; exact (zwr_i (by omega)).trans (zwr_r (by decide))⟩, f2⟩, rfl⟩
                · refine X_iconst i_X10_statement_120 ?_
                  refine X_goto i_X10_statement_121 (tgt := 144) rfl ?_
                  refine Y_istore_3 i_X10_statement_144 rfl rfl ?_
                  refine Y_iload_3 i_X10_statement_145 ?_
                  refine X_if_eq i_X10_statement_146 (tgt := 158) rfl ⟨by omega, by omega⟩ (fun h146 => by exfalso; omega) (fun h146 => ?_)
                  refine Y_aload_0 i_X10_statement_149 ?_
                  refine Y_callV (k' := kX10_next) i_X10_statement_150 l_X10_82 m_X10_next (c_X10_next (x := (s : Int) + 5) (zs_self _ _ _) (by rw [zs_ne (by decide)]; exact hL2) hL (by rw [d3, h117]; omega) (by omega) (by omega)) rfl rfl rfl rfl rfl ?_
                  refine X_bipush i_X10_statement_153 (by decide +kernel) ?_
                  refine X_icmp_eq i_X10_statement_155 (tgt := 160) rfl ⟨by omega, by omega⟩ ⟨by omega, by omega⟩ (fun h155 => ?_) (fun h155 => ?_)
                  · refine Y_aload_0 i_X10_statement_160 ?_
                    refine X_dup i_X10_statement_161 rfl ?_
                    refine Y_getI i_X10_statement_162 f_X10_79 rfl (zg0 _ _ _ _ _) ?_
                    rw [d3, h117]
                    refine X_iconst i_X10_statement_165 ?_
                    refine X_iadd i_X10_statement_166 ?_
                    refine Y_putI i_X10_statement_167 f_X10_79 rfl t_7_17 (zp0 _ _ _ _ _ _) ?_
                    refine X_iconst i_X10_statement_170 ?_
                    refine X_zret i_X10_statement_171 rfl (by omega) ?_
                    have hcb : sAt L s = 103 := by omega
                    have hw := sWf_g hcb
                    have hwv : sWf L s = -1 := by rw [hw]; repeat (first | omega | split)
                    have f0 : H4 0 = zwr H 0 (k : Int) (sAt L s) 0 := by rw [a3, a2, a1, zwr_row rfl, zwr_row rfl]
                    have f1 : H4 1 = zwr (zwr H 0 (k : Int) (sAt L s)) 1 (k : Int) (s : Int) 1 := by rw [b3, b2, b1, zwr_row rfl]
                    have f3 : H4 3 1 = k := by rw [c3, c2, c1, zwr_i (by decide), zwr_row rfl, zwr_row rfl, hk]
                    have f2 : ∀ i : Int, i < 3 * (k : Int) → H4 2 i = H 2 i := fun i hi => by rw [o3 i (by omega), o2 i (by omega), o1 i (by omega), zwr_row rfl, zwr_row rfl, zwr_row rfl]
                    have hln : sLn (sAt L s) = 6 := by rw [hcb]; rfl
                    exact ⟨by rw [if_pos (by omega)], _, ⟨by rw [zwr_i (by decide)]; exact f3, by rw [zr0, hwv, if_pos (by omega), hln]; omega, fun _ => zTl_w ⟨by rw [f0, zr0], by rw [f1, zr0], by rw [if_neg (by omega), o3 _ (by omega), o2 _ (by omega)]; exact v1 h95, fun _ => ⟨by rw [o3 _ (by omega)]; exact v2 h106, v3 h117⟩⟩, fun j j0 j1 => by rw [zwr_row rfl, zwr_row rfl]; exact (fun j j0 j1 => ⟨by rw [f0]; exact zwr_i (by omega), by rw [f1]; exact (zwr_i (by omega)).trans (zwr_r (by decide))⟩) j j0 j1, fun i hi => by rw [zwr_row rfl]; exact f2 i hi⟩, rfl⟩
                  · refine X_iconst i_X10_statement_158 ?_
                    refine X_zret i_X10_statement_159 rfl (by omega) ?_
                    have hcb : sAt L s = 103 := by omega
                    have hw := sWf_g hcb
                    have hwv : sWf L s = (s : Int) + 5 := by rw [hw]; repeat (first | omega | split)
                    have f0 : H4 0 = zwr H 0 (k : Int) (sAt L s) 0 := by rw [a3, a2, a1, zwr_row rfl, zwr_row rfl]
                    have f1 : H4 1 = zwr (zwr H 0 (k : Int) (sAt L s)) 1 (k : Int) (s : Int) 1 := by rw [b3, b2, b1, zwr_row rfl]
                    have f3 : H4 3 1 = k := by rw [c3, c2, c1, zwr_i (by decide), zwr_row rfl, zwr_row rfl, hk]
                    have f2 : ∀ i : Int, i < 3 * (k : Int) → H4 2 i = H 2 i := fun i hi => by rw [o3 i (by omega), o2 i (by omega), o1 i (by omega), zwr_row rfl, zwr_row rfl, zwr_row rfl]
                    exact ⟨by rw [if_neg (by omega)], H4, ⟨f3, by rw [hwv, if_neg (by omega)]; omega, fun z => by omega, fun j j0 j1 => ⟨by rw [f0]; exact zwr_i (by omega), by rw [f1]; exact (zwr_i (by omega)).trans (zwr_r (by decide))⟩, f2⟩, rfl⟩
        · refine Y_iload_1 i_X10_statement_29 ?_
          refine X_bipush i_X10_statement_30 (by decide +kernel) ?_
          refine X_icmp_eq i_X10_statement_32 (tgt := 43) rfl ⟨by omega, by omega⟩ ⟨by omega, by omega⟩ (fun h32 => ?_) (fun h32 => ?_)
          · refine Y_aload_0 i_X10_statement_43 ?_
            refine X_getR i_X10_statement_44 f_X10_34 rfl ?_
            refine Y_aload_0 i_X10_statement_47 ?_
            refine Y_getI i_X10_statement_48 f_X10_90 rfl (zg0 _ _ _ _ _) ?_
            rw [hk]
            refine Y_iload_1 i_X10_statement_51 ?_
            refine Y_iast i_X10_statement_52 rfl ⟨by omega, by omega⟩ rfl (zp0 _ _ _ _ _ _) ?_
            refine Y_aload_0 i_X10_statement_53 ?_
            refine X_getR i_X10_statement_54 f_X10_37 rfl ?_
            refine Y_aload_0 i_X10_statement_57 ?_
            refine Y_getI i_X10_statement_58 f_X10_90 rfl (zga (zr1 rfl rfl)) ?_
            rw [hk]
            refine Y_aload_0 i_X10_statement_61 ?_
            refine Y_getI i_X10_statement_62 f_X10_79 rfl (zga (zr1 rfl rfl)) ?_
            rw [hs]
            refine Y_iast i_X10_statement_65 rfl ⟨by omega, by omega⟩ rfl (zp0 _ _ _ _ _ _) ?_
            refine Y_aload_0 i_X10_statement_66 ?_
            refine X_dup i_X10_statement_67 rfl ?_
            refine Y_getI i_X10_statement_68 f_X10_79 rfl (zga (zr1 rfl (zr1 rfl rfl))) ?_
            rw [hs]
            refine X_iconst i_X10_statement_71 ?_
            refine X_iadd i_X10_statement_72 ?_
            refine Y_putI i_X10_statement_73 f_X10_79 rfl t_7_17 (zp0 _ _ _ _ _ _) ?_
            refine X_iconst i_X10_statement_76 ?_
            refine Y_aload_0 i_X10_statement_77 ?_
            refine Y_getI i_X10_statement_78 f_X10_90 rfl (zga (zr2 (by decide) (zr1 rfl (zr1 rfl rfl)))) ?_
            rw [hk]
            refine X_imul i_X10_statement_81 ?_
            refine Y_istore_2 i_X10_statement_82 rfl rfl ?_
            refine Y_iload_1 i_X10_statement_83 ?_
            refine X_bipush i_X10_statement_84 (by decide +kernel) ?_
            refine Y_icmp_ne i_X10_statement_86 (tgt := 128) rfl ⟨by omega, by omega⟩ ⟨by omega, by omega⟩ (fun h86 => ?_) (fun h86 => ?_)
            · refine Y_aload_0 i_X10_statement_128 ?_
              refine Y_iload_2 i_X10_statement_129 ?_
              refine Y_iload_1 i_X10_statement_130 ?_
              refine X_bipush i_X10_statement_131 (by decide +kernel) ?_
              refine Y_icmp_ne i_X10_statement_133 (tgt := 140) rfl ⟨by omega, by omega⟩ ⟨by omega, by omega⟩ (fun h133 => ?_) (fun h133 => ?_)
              · refine X_iconst i_X10_statement_140 ?_
                refine Y_callVq (k' := kX10_readsDigits) i_X10_statement_141 l_X10_93 m_X10_readsDigits (c_X10_digits1 hL2 hL (x := (s : Int) + 1) (y := 3 * (k : Int)) zr0 (by omega) (by omega) (by omega) (by omega)) rfl rfl rfl rfl rfl ?_
                intro r9 M9 hr9
                obtain ⟨rfl, H2, ⟨a1, b1, c1, d1, o1, v1⟩, rfl⟩ := hr9
                refine X_tl ?_
                refine Y_istore_3 i_X10_statement_144 rfl rfl ?_
                refine Y_iload_3 i_X10_statement_145 ?_
                refine X_if_eq i_X10_statement_146 (tgt := 158) rfl (zrB _) (fun h146 => ?_) (fun h146 => ?_)
                · refine X_iconst i_X10_statement_158 ?_
                  refine X_zret i_X10_statement_159 rfl (by omega) ?_
                  have hw := sWf_o (L := L) (s := s) (by omega)
                  have hdk := zrB0 h146
                  have hwv : sWf L s = (s : Int) + 1 + (sDk L ((s : Int) + 1) 1 : Nat) := by rw [hw]; repeat (first | omega | split)
                  have f0 : H2 0 = zwr H 0 (k : Int) (sAt L s) 0 := by rw [a1, zwr_row rfl, zwr_row rfl]
                  have f1 : H2 1 = zwr (zwr H 0 (k : Int) (sAt L s)) 1 (k : Int) (s : Int) 1 := by rw [b1, zwr_row rfl]
                  have f3 : H2 3 1 = k := by rw [c1, zwr_i (by decide), zwr_row rfl, zwr_row rfl, hk]
                  have f2 : ∀ i : Int, i < 3 * (k : Int) → H2 2 i = H 2 i := fun i hi => by rw [o1 i (by omega), zwr_row rfl, zwr_row rfl, zwr_row rfl]
                  exact ⟨by rw [if_neg (by omega)], H2, ⟨f3, by rw [hwv, if_neg (by omega)]; omega, fun z => by omega, fun j j0 j1 => ⟨by rw [f0]; exact zwr_i (by omega), by rw [f1]; exact (zwr_i (by omega)).trans (zwr_r (by decide))⟩, f2⟩, rfl⟩
                · refine Y_aload_0 i_X10_statement_149 ?_
                  refine Y_callV (k' := kX10_next) i_X10_statement_150 l_X10_82 m_X10_next (c_X10_next (x := (s : Int) + 2) (zs_self _ _ _) (by rw [zs_ne (by decide)]; exact hL2) hL (by rw [d1, zrB1 h146]; omega) (by omega) (by omega)) rfl rfl rfl rfl rfl ?_
                  refine X_bipush i_X10_statement_153 (by decide +kernel) ?_
                  refine X_icmp_eq i_X10_statement_155 (tgt := 160) rfl ⟨by omega, by omega⟩ ⟨by omega, by omega⟩ (fun h155 => ?_) (fun h155 => ?_)
                  · refine Y_aload_0 i_X10_statement_160 ?_
                    refine X_dup i_X10_statement_161 rfl ?_
                    refine Y_getI i_X10_statement_162 f_X10_79 rfl (zg0 _ _ _ _ _) ?_
                    rw [d1, zrB1 h146]
                    refine X_iconst i_X10_statement_165 ?_
                    refine X_iadd i_X10_statement_166 ?_
                    refine Y_putI i_X10_statement_167 f_X10_79 rfl t_7_17 (zp0 _ _ _ _ _ _) ?_
                    refine X_iconst i_X10_statement_170 ?_
                    refine X_zret i_X10_statement_171 rfl (by omega) ?_
                    have hw := sWf_o (L := L) (s := s) (by omega)
                    have hdk := zrB1 h146
                    have hwv : sWf L s = -1 := by rw [hw]; repeat (first | omega | split)
                    have f0 : H2 0 = zwr H 0 (k : Int) (sAt L s) 0 := by rw [a1, zwr_row rfl, zwr_row rfl]
                    have f1 : H2 1 = zwr (zwr H 0 (k : Int) (sAt L s)) 1 (k : Int) (s : Int) 1 := by rw [b1, zwr_row rfl]
                    have f3 : H2 3 1 = k := by rw [c1, zwr_i (by decide), zwr_row rfl, zwr_row rfl, hk]
                    have f2 : ∀ i : Int, i < 3 * (k : Int) → H2 2 i = H 2 i := fun i hi => by rw [o1 i (by omega), zwr_row rfl, zwr_row rfl, zwr_row rfl]
                    have hln : sLn (sAt L s) = 3 := by rcases (by omega : sAt L s = 114 ∨ sAt L s = 111 ∨ sAt L s = 99 ∨ sAt L s = 117) with e | e | e | e <;> rw [e] <;> rfl
                    exact ⟨by rw [if_pos (by omega)], _, ⟨by rw [zwr_i (by decide)]; exact f3, by rw [zr0, hwv, if_pos (by omega), hln]; omega, fun _ => zTl_w ⟨by rw [f0, zr0], by rw [f1, zr0], by rw [if_neg (by omega)]; exact v1 hdk, fun z => by omega⟩, fun j j0 j1 => by rw [zwr_row rfl, zwr_row rfl]; exact (fun j j0 j1 => ⟨by rw [f0]; exact zwr_i (by omega), by rw [f1]; exact (zwr_i (by omega)).trans (zwr_r (by decide))⟩) j j0 j1, fun i hi => by rw [zwr_row rfl]; exact f2 i hi⟩, rfl⟩
                  · refine X_iconst i_X10_statement_158 ?_
                    refine X_zret i_X10_statement_159 rfl (by omega) ?_
                    have hw := sWf_o (L := L) (s := s) (by omega)
                    have hdk := zrB1 h146
                    have hwv : sWf L s = (s : Int) + 2 := by rw [hw]; repeat (first | omega | split)
                    have f0 : H2 0 = zwr H 0 (k : Int) (sAt L s) 0 := by rw [a1, zwr_row rfl, zwr_row rfl]
                    have f1 : H2 1 = zwr (zwr H 0 (k : Int) (sAt L s)) 1 (k : Int) (s : Int) 1 := by rw [b1, zwr_row rfl]
                    have f3 : H2 3 1 = k := by rw [c1, zwr_i (by decide), zwr_row rfl, zwr_row rfl, hk]
                    have f2 : ∀ i : Int, i < 3 * (k : Int) → H2 2 i = H 2 i := fun i hi => by rw [o1 i (by omega), zwr_row rfl, zwr_row rfl, zwr_row rfl]
                    exact ⟨by rw [if_neg (by omega)], H2, ⟨f3, by rw [hwv, if_neg (by omega)]; omega, fun z => by omega, fun j j0 j1 => ⟨by rw [f0]; exact zwr_i (by omega), by rw [f1]; exact (zwr_i (by omega)).trans (zwr_r (by decide))⟩, f2⟩, rfl⟩
              · refine X_iconst i_X10_statement_136 ?_
                refine X_goto i_X10_statement_137 (tgt := 141) rfl ?_
                refine Y_callVq (k' := kX10_readsDigits) i_X10_statement_141 l_X10_93 m_X10_readsDigits (c_X10_digits2 hL2 hL (x := (s : Int) + 1) (y := 3 * (k : Int)) zr0 (by omega) (by omega) (by omega) (by omega)) rfl rfl rfl rfl rfl ?_
                intro r9 M9 hr9
                obtain ⟨rfl, H2, ⟨a1, b1, c1, d1, o1, v1⟩, rfl⟩ := hr9
                refine X_tl ?_
                refine Y_istore_3 i_X10_statement_144 rfl rfl ?_
                refine Y_iload_3 i_X10_statement_145 ?_
                refine X_if_eq i_X10_statement_146 (tgt := 158) rfl (zrB _) (fun h146 => ?_) (fun h146 => ?_)
                · refine X_iconst i_X10_statement_158 ?_
                  refine X_zret i_X10_statement_159 rfl (by omega) ?_
                  have hcb : sAt L s = 109 := by omega
                  have hw := sWf_m hcb
                  have hdk := zrB0 h146
                  have hwv : sWf L s = (s : Int) + 1 + (sDk L ((s : Int) + 1) 2 : Nat) := by rw [hw]; repeat (first | omega | split)
                  have f0 : H2 0 = zwr H 0 (k : Int) (sAt L s) 0 := by rw [a1, zwr_row rfl, zwr_row rfl]
                  have f1 : H2 1 = zwr (zwr H 0 (k : Int) (sAt L s)) 1 (k : Int) (s : Int) 1 := by rw [b1, zwr_row rfl]
                  have f3 : H2 3 1 = k := by rw [c1, zwr_i (by decide), zwr_row rfl, zwr_row rfl, hk]
                  have f2 : ∀ i : Int, i < 3 * (k : Int) → H2 2 i = H 2 i := fun i hi => by rw [o1 i (by omega), zwr_row rfl, zwr_row rfl, zwr_row rfl]
                  exact ⟨by rw [if_neg (by omega)], H2, ⟨f3, by rw [hwv, if_neg (by omega)]; omega, fun z => by omega, fun j j0 j1 => ⟨by rw [f0]; exact zwr_i (by omega), by rw [f1]; exact (zwr_i (by omega)).trans (zwr_r (by decide))⟩, f2⟩, rfl⟩
                · refine Y_aload_0 i_X10_statement_149 ?_
                  refine Y_callV (k' := kX10_next) i_X10_statement_150 l_X10_82 m_X10_next (c_X10_next (x := (s : Int) + 3) (zs_self _ _ _) (by rw [zs_ne (by decide)]; exact hL2) hL (by rw [d1, zrB1 h146]; omega) (by omega) (by omega)) rfl rfl rfl rfl rfl ?_
                  refine X_bipush i_X10_statement_153 (by decide +kernel) ?_
                  refine X_icmp_eq i_X10_statement_155 (tgt := 160) rfl ⟨by omega, by omega⟩ ⟨by omega, by omega⟩ (fun h155 => ?_) (fun h155 => ?_)
                  · refine Y_aload_0 i_X10_statement_160 ?_
                    refine X_dup i_X10_statement_161 rfl ?_
                    refine Y_getI i_X10_statement_162 f_X10_79 rfl (zg0 _ _ _ _ _) ?_
                    rw [d1, zrB1 h146]
                    refine X_iconst i_X10_statement_165 ?_
                    refine X_iadd i_X10_statement_166 ?_
                    refine Y_putI i_X10_statement_167 f_X10_79 rfl t_7_17 (zp0 _ _ _ _ _ _) ?_
                    refine X_iconst i_X10_statement_170 ?_
                    refine X_zret i_X10_statement_171 rfl (by omega) ?_
                    have hcb : sAt L s = 109 := by omega
                    have hw := sWf_m hcb
                    have hdk := zrB1 h146
                    have hwv : sWf L s = -1 := by rw [hw]; repeat (first | omega | split)
                    have f0 : H2 0 = zwr H 0 (k : Int) (sAt L s) 0 := by rw [a1, zwr_row rfl, zwr_row rfl]
                    have f1 : H2 1 = zwr (zwr H 0 (k : Int) (sAt L s)) 1 (k : Int) (s : Int) 1 := by rw [b1, zwr_row rfl]
                    have f3 : H2 3 1 = k := by rw [c1, zwr_i (by decide), zwr_row rfl, zwr_row rfl, hk]
                    have f2 : ∀ i : Int, i < 3 * (k : Int) → H2 2 i = H 2 i := fun i hi => by rw [o1 i (by omega), zwr_row rfl, zwr_row rfl, zwr_row rfl]
                    have hln : sLn (sAt L s) = 4 := by rw [hcb]; rfl
                    exact ⟨by rw [if_pos (by omega)], _, ⟨by rw [zwr_i (by decide)]; exact f3, by rw [zr0, hwv, if_pos (by omega), hln]; omega, fun _ => zTl_w ⟨by rw [f0, zr0], by rw [f1, zr0], by rw [if_pos (by omega)]; exact v1 hdk, fun z => by omega⟩, fun j j0 j1 => by rw [zwr_row rfl, zwr_row rfl]; exact (fun j j0 j1 => ⟨by rw [f0]; exact zwr_i (by omega), by rw [f1]; exact (zwr_i (by omega)).trans (zwr_r (by decide))⟩) j j0 j1, fun i hi => by rw [zwr_row rfl]; exact f2 i hi⟩, rfl⟩
                  · refine X_iconst i_X10_statement_158 ?_
                    refine X_zret i_X10_statement_159 rfl (by omega) ?_
                    have hcb : sAt L s = 109 := by omega
                    have hw := sWf_m hcb
                    have hdk := zrB1 h146
                    have hwv : sWf L s = (s : Int) + 3 := by rw [hw]; repeat (first | omega | split)
                    have f0 : H2 0 = zwr H 0 (k : Int) (sAt L s) 0 := by rw [a1, zwr_row rfl, zwr_row rfl]
                    have f1 : H2 1 = zwr (zwr H 0 (k : Int) (sAt L s)) 1 (k : Int) (s : Int) 1 := by rw [b1, zwr_row rfl]
                    have f3 : H2 3 1 = k := by rw [c1, zwr_i (by decide), zwr_row rfl, zwr_row rfl, hk]
                    have f2 : ∀ i : Int, i < 3 * (k : Int) → H2 2 i = H 2 i := fun i hi => by rw [o1 i (by omega), zwr_row rfl, zwr_row rfl, zwr_row rfl]
                    exact ⟨by rw [if_neg (by omega)], H2, ⟨f3, by rw [hwv, if_neg (by omega)]; omega, fun z => by omega, fun j j0 j1 => ⟨by rw [f0]; exact zwr_i (by omega), by rw [f1]; exact (zwr_i (by omega)).trans (zwr_r (by decide))⟩, f2⟩, rfl⟩
            · refine Y_aload_0 i_X10_statement_89 ?_
              refine Y_iload_2 i_X10_statement_90 ?_
              refine X_iconst i_X10_statement_91 ?_
              refine Y_callVq (k' := kX10_readsDigits) i_X10_statement_92 l_X10_93 m_X10_readsDigits (c_X10_digits1 hL2 hL (x := (s : Int) + 1) (y := 3 * (k : Int)) zr0 (by omega) (by omega) (by omega) (by omega)) rfl rfl rfl rfl rfl ?_
              intro r9 M9 hr9
              obtain ⟨rfl, H2, ⟨a1, b1, c1, d1, o1, v1⟩, rfl⟩ := hr9
              refine X_tl ?_
              refine Y_ifq_eq i_X10_statement_95 (tgt := 124) rfl  (fun h95 => ?_) (fun h95 => ?_)
              · refine X_iconst i_X10_statement_124 ?_
                refine X_goto i_X10_statement_125 (tgt := 144) rfl ?_
                refine Y_istore_3 i_X10_statement_144 rfl rfl ?_
                refine Y_iload_3 i_X10_statement_145 ?_
                refine X_if_eq i_X10_statement_146 (tgt := 158) rfl ⟨by omega, by omega⟩ (fun h146 => ?_) (fun h146 => by exfalso; omega)
                refine X_iconst i_X10_statement_158 ?_
                refine X_zret i_X10_statement_159 rfl (by omega) ?_
                have hcb : sAt L s = 103 := by omega
                have hw := sWf_g hcb
                have hwv : sWf L s = (s : Int) + 1 := by rw [hw]; repeat (first | omega | split)
                have f0 : H2 0 = zwr H 0 (k : Int) (sAt L s) 0 := by rw [a1, zwr_row rfl, zwr_row rfl]
                have f1 : H2 1 = zwr (zwr H 0 (k : Int) (sAt L s)) 1 (k : Int) (s : Int) 1 := by rw [b1, zwr_row rfl]
                have f3 : H2 3 1 = k := by rw [c1, zwr_i (by decide), zwr_row rfl, zwr_row rfl, hk]
                have f2 : ∀ i : Int, i < 3 * (k : Int) → H2 2 i = H 2 i := fun i hi => by rw [o1 i (by omega), zwr_row rfl, zwr_row rfl, zwr_row rfl]
                exact ⟨by rw [if_neg (by omega)], H2, ⟨f3, by rw [hwv, if_neg (by omega)]; omega, fun z => by omega, fun j j0 j1 => ⟨by rw [f0]; exact zwr_i (by omega), by rw [f1]; exact (zwr_i (by omega)).trans (zwr_r (by decide))⟩, f2⟩, rfl⟩
              · refine Y_aload_0 i_X10_statement_98 ?_
                refine Y_iload_2 i_X10_statement_99 ?_
                refine X_iconst i_X10_statement_100 ?_
                refine X_iadd i_X10_statement_101 ?_
                refine X_iconst i_X10_statement_102 ?_
                refine Y_callVq (k' := kX10_readsDigits) i_X10_statement_103 l_X10_93 m_X10_readsDigits (c_X10_digits1 hL2 hL (x := (s : Int) + 2) (y := 3 * (k : Int) + 1) (by rw [d1, h95]; omega) (by omega) (by omega) (by omega) (by omega)) rfl rfl rfl rfl rfl ?_
                intro r9 M9 hr9
                obtain ⟨rfl, H3, ⟨a2, b2, c2, d2, o2, v2⟩, rfl⟩ := hr9
                refine X_tl ?_
                refine Y_ifq_eq i_X10_statement_106 (tgt := 124) rfl  (fun h106 => ?_) (fun h106 => ?_)
                · refine X_iconst i_X10_statement_124 ?_
                  refine X_goto i_X10_statement_125 (tgt := 144) rfl ?_
                  refine Y_istore_3 i_X10_statement_144 rfl rfl ?_
                  refine Y_iload_3 i_X10_statement_145 ?_
                  refine X_if_eq i_X10_statement_146 (tgt := 158) rfl ⟨by omega, by omega⟩ (fun h146 => ?_) (fun h146 => by exfalso; omega)
                  refine X_iconst i_X10_statement_158 ?_
                  refine X_zret i_X10_statement_159 rfl (by omega) ?_
                  have hcb : sAt L s = 103 := by omega
                  have hw := sWf_g hcb
                  have hwv : sWf L s = (s : Int) + 2 := by rw [hw]; repeat (first | omega | split)
                  have f0 : H3 0 = zwr H 0 (k : Int) (sAt L s) 0 := by rw [a2, a1, zwr_row rfl, zwr_row rfl]
                  have f1 : H3 1 = zwr (zwr H 0 (k : Int) (sAt L s)) 1 (k : Int) (s : Int) 1 := by rw [b2, b1, zwr_row rfl]
                  have f3 : H3 3 1 = k := by rw [c2, c1, zwr_i (by decide), zwr_row rfl, zwr_row rfl, hk]
                  have f2 : ∀ i : Int, i < 3 * (k : Int) → H3 2 i = H 2 i := fun i hi => by rw [o2 i (by omega), o1 i (by omega), zwr_row rfl, zwr_row rfl, zwr_row rfl]
                  exact ⟨by rw [if_neg (by omega)], H3, ⟨f3, by rw [hwv, if_neg (by omega)]; omega, fun z => by omega, fun j j0 j1 => ⟨by rw [f0]; exact zwr_i (by omega), by rw [f1]; exact (zwr_i (by omega)).trans (zwr_r (by decide))⟩, f2⟩, rfl⟩
                · refine Y_aload_0 i_X10_statement_109 ?_
                  refine Y_iload_2 i_X10_statement_110 ?_
                  refine X_iconst i_X10_statement_111 ?_
                  refine X_iadd i_X10_statement_112 ?_
                  refine X_iconst i_X10_statement_113 ?_
                  refine Y_callVq (k' := kX10_readsDigits) i_X10_statement_114 l_X10_93 m_X10_readsDigits (c_X10_digits2 hL2 hL (x := (s : Int) + 3) (y := 3 * (k : Int) + 2) (by rw [d2, h106]; omega) (by omega) (by omega) (by omega) (by omega)) rfl rfl rfl rfl rfl ?_
                  intro r9 M9 hr9
                  obtain ⟨rfl, H4, ⟨a3, b3, c3, d3, o3, v3⟩, rfl⟩ := hr9
                  refine X_tl ?_
                  refine Y_ifq_eq i_X10_statement_117 (tgt := 124) rfl  (fun h117 => ?_) (fun h117 => ?_)
                  · refine X_iconst i_X10_statement_124 ?_
                    refine X_goto i_X10_statement_125 (tgt := 144) rfl ?_
                    refine Y_istore_3 i_X10_statement_144 rfl rfl ?_
                    refine Y_iload_3 i_X10_statement_145 ?_
                    refine X_if_eq i_X10_statement_146 (tgt := 158) rfl ⟨by omega, by omega⟩ (fun h146 => ?_) (fun h146 => by exfalso; omega)
                    refine X_iconst i_X10_statement_158 ?_
                    refine X_zret i_X10_statement_159 rfl (by omega) ?_
                    have hcb : sAt L s = 103 := by omega
                    have hw := sWf_g hcb
                    have hwv : sWf L s = (s : Int) + 3 + (sDk L ((s : Int) + 3) 2 : Nat) := by rw [hw]; repeat (first | omega | split)
                    have f0 : H4 0 = zwr H 0 (k : Int) (sAt L s) 0 := by rw [a3, a2, a1, zwr_row rfl, zwr_row rfl]
                    have f1 : H4 1 = zwr (zwr H 0 (k : Int) (sAt L s)) 1 (k : Int) (s : Int) 1 := by rw [b3, b2, b1, zwr_row rfl]
                    have f3 : H4 3 1 = k := by rw [c3, c2, c1, zwr_i (by decide), zwr_row rfl, zwr_row rfl, hk]
                    have f2 : ∀ i : Int, i < 3 * (k : Int) → H4 2 i = H 2 i := fun i hi => by rw [o3 i (by omega), o2 i (by omega), o1 i (by omega), zwr_row rfl, zwr_row rfl, zwr_row rfl]
                    exact ⟨by rw [if_neg (by omega)], H4, ⟨f3, by rw [hwv, if_neg (by omega)]; omega, fun z => by omega, fun j j0 j1 => ⟨by rw [f0]; exact zwr_i (by omega), by rw [f1]; exact (zwr_i (by omega)).trans (zwr_r (by decide))⟩, f2⟩, rfl⟩
                  · refine X_iconst i_X10_statement_120 ?_
                    refine X_goto i_X10_statement_121 (tgt := 144) rfl ?_
                    refine Y_istore_3 i_X10_statement_144 rfl rfl ?_
                    refine Y_iload_3 i_X10_statement_145 ?_
                    refine X_if_eq i_X10_statement_146 (tgt := 158) rfl ⟨by omega, by omega⟩ (fun h146 => by exfalso; omega) (fun h146 => ?_)
                    refine Y_aload_0 i_X10_statement_149 ?_
                    refine Y_callV (k' := kX10_next) i_X10_statement_150 l_X10_82 m_X10_next (c_X10_next (x := (s : Int) + 5) (zs_self _ _ _) (by rw [zs_ne (by decide)]; exact hL2) hL (by rw [d3, h117]; omega) (by omega) (by omega)) rfl rfl rfl rfl rfl ?_
                    refine X_bipush i_X10_statement_153 (by decide +kernel) ?_
                    refine X_icmp_eq i_X10_statement_155 (tgt := 160) rfl ⟨by omega, by omega⟩ ⟨by omega, by omega⟩ (fun h155 => ?_) (fun h155 => ?_)
                    · refine Y_aload_0 i_X10_statement_160 ?_
                      refine X_dup i_X10_statement_161 rfl ?_
                      refine Y_getI i_X10_statement_162 f_X10_79 rfl (zg0 _ _ _ _ _) ?_
                      rw [d3, h117]
                      refine X_iconst i_X10_statement_165 ?_
                      refine X_iadd i_X10_statement_166 ?_
                      refine Y_putI i_X10_statement_167 f_X10_79 rfl t_7_17 (zp0 _ _ _ _ _ _) ?_
                      refine X_iconst i_X10_statement_170 ?_
                      refine X_zret i_X10_statement_171 rfl (by omega) ?_
                      have hcb : sAt L s = 103 := by omega
                      have hw := sWf_g hcb
                      have hwv : sWf L s = -1 := by rw [hw]; repeat (first | omega | split)
                      have f0 : H4 0 = zwr H 0 (k : Int) (sAt L s) 0 := by rw [a3, a2, a1, zwr_row rfl, zwr_row rfl]
                      have f1 : H4 1 = zwr (zwr H 0 (k : Int) (sAt L s)) 1 (k : Int) (s : Int) 1 := by rw [b3, b2, b1, zwr_row rfl]
                      have f3 : H4 3 1 = k := by rw [c3, c2, c1, zwr_i (by decide), zwr_row rfl, zwr_row rfl, hk]
                      have f2 : ∀ i : Int, i < 3 * (k : Int) → H4 2 i = H 2 i := fun i hi => by rw [o3 i (by omega), o2 i (by omega), o1 i (by omega), zwr_row rfl, zwr_row rfl, zwr_row rfl]
                      have hln : sLn (sAt L s) = 6 := by rw [hcb]; rfl
                      exact ⟨by rw [if_pos (by omega)], _, ⟨by rw [zwr_i (by decide)]; exact f3, by rw [zr0, hwv, if_pos (by omega), hln]; omega, fun _ => zTl_w ⟨by rw [f0, zr0], by rw [f1, zr0], by rw [if_neg (by omega), o3 _ (by omega), o2 _ (by omega)]; exact v1 h95, fun _ => ⟨by rw [o3 _ (by omega)]; exact v2 h106, v3 h117⟩⟩, fun j j0 j1 => by rw [zwr_row rfl, zwr_row rfl]; exact (fun j j0 j1 => ⟨by rw [f0]; exact zwr_i (by omega), by rw [f1]; exact (zwr_i (by omega)).trans (zwr_r (by decide))⟩) j j0 j1, fun i hi => by rw [zwr_row rfl]; exact f2 i hi⟩, rfl⟩
                    · refine X_iconst i_X10_statement_158 ?_
                      refine X_zret i_X10_statement_159 rfl (by omega) ?_
                      have hcb : sAt L s = 103 := by omega
                      have hw := sWf_g hcb
                      have hwv : sWf L s = (s : Int) + 5 := by rw [hw]; repeat (first | omega | split)
                      have f0 : H4 0 = zwr H 0 (k : Int) (sAt L s) 0 := by rw [a3, a2, a1, zwr_row rfl, zwr_row rfl]
                      have f1 : H4 1 = zwr (zwr H 0 (k : Int) (sAt L s)) 1 (k : Int) (s : Int) 1 := by rw [b3, b2, b1, zwr_row rfl]
                      have f3 : H4 3 1 = k := by rw [c3, c2, c1, zwr_i (by decide), zwr_row rfl, zwr_row rfl, hk]
                      have f2 : ∀ i : Int, i < 3 * (k : Int) → H4 2 i = H 2 i := fun i hi => by rw [o3 i (by omega), o2 i (by omega), o1 i (by omega), zwr_row rfl, zwr_row rfl, zwr_row rfl]
                      exact ⟨by rw [if_neg (by omega)], H4, ⟨f3, by rw [hwv, if_neg (by omega)]; omega, fun z => by omega, fun j j0 j1 => ⟨by rw [f0]; exact zwr_i (by omega), by rw [f1]; exact (zwr_i (by omega)).trans (zwr_r (by decide))⟩, f2⟩, rfl⟩
          · refine Y_iload_1 i_X10_statement_35 ?_
            refine X_bipush i_X10_statement_36 (by decide +kernel) ?_
            refine X_icmp_eq i_X10_statement_38 (tgt := 43) rfl ⟨by omega, by omega⟩ ⟨by omega, by omega⟩ (fun h38 => ?_) (fun h38 => ?_)
            · refine Y_aload_0 i_X10_statement_43 ?_
              refine X_getR i_X10_statement_44 f_X10_34 rfl ?_
              refine Y_aload_0 i_X10_statement_47 ?_
              refine Y_getI i_X10_statement_48 f_X10_90 rfl (zg0 _ _ _ _ _) ?_
              rw [hk]
              refine Y_iload_1 i_X10_statement_51 ?_
              refine Y_iast i_X10_statement_52 rfl ⟨by omega, by omega⟩ rfl (zp0 _ _ _ _ _ _) ?_
              refine Y_aload_0 i_X10_statement_53 ?_
              refine X_getR i_X10_statement_54 f_X10_37 rfl ?_
              refine Y_aload_0 i_X10_statement_57 ?_
              refine Y_getI i_X10_statement_58 f_X10_90 rfl (zga (zr1 rfl rfl)) ?_
              rw [hk]
              refine Y_aload_0 i_X10_statement_61 ?_
              refine Y_getI i_X10_statement_62 f_X10_79 rfl (zga (zr1 rfl rfl)) ?_
              rw [hs]
              refine Y_iast i_X10_statement_65 rfl ⟨by omega, by omega⟩ rfl (zp0 _ _ _ _ _ _) ?_
              refine Y_aload_0 i_X10_statement_66 ?_
              refine X_dup i_X10_statement_67 rfl ?_
              refine Y_getI i_X10_statement_68 f_X10_79 rfl (zga (zr1 rfl (zr1 rfl rfl))) ?_
              rw [hs]
              refine X_iconst i_X10_statement_71 ?_
              refine X_iadd i_X10_statement_72 ?_
              refine Y_putI i_X10_statement_73 f_X10_79 rfl t_7_17 (zp0 _ _ _ _ _ _) ?_
              refine X_iconst i_X10_statement_76 ?_
              refine Y_aload_0 i_X10_statement_77 ?_
              refine Y_getI i_X10_statement_78 f_X10_90 rfl (zga (zr2 (by decide) (zr1 rfl (zr1 rfl rfl)))) ?_
              rw [hk]
              refine X_imul i_X10_statement_81 ?_
              refine Y_istore_2 i_X10_statement_82 rfl rfl ?_
              refine Y_iload_1 i_X10_statement_83 ?_
              refine X_bipush i_X10_statement_84 (by decide +kernel) ?_
              refine Y_icmp_ne i_X10_statement_86 (tgt := 128) rfl ⟨by omega, by omega⟩ ⟨by omega, by omega⟩ (fun h86 => ?_) (fun h86 => ?_)
              · refine Y_aload_0 i_X10_statement_128 ?_
                refine Y_iload_2 i_X10_statement_129 ?_
                refine Y_iload_1 i_X10_statement_130 ?_
                refine X_bipush i_X10_statement_131 (by decide +kernel) ?_
                refine Y_icmp_ne i_X10_statement_133 (tgt := 140) rfl ⟨by omega, by omega⟩ ⟨by omega, by omega⟩ (fun h133 => ?_) (fun h133 => ?_)
                · refine X_iconst i_X10_statement_140 ?_
                  refine Y_callVq (k' := kX10_readsDigits) i_X10_statement_141 l_X10_93 m_X10_readsDigits (c_X10_digits1 hL2 hL (x := (s : Int) + 1) (y := 3 * (k : Int)) zr0 (by omega) (by omega) (by omega) (by omega)) rfl rfl rfl rfl rfl ?_
                  intro r9 M9 hr9
                  obtain ⟨rfl, H2, ⟨a1, b1, c1, d1, o1, v1⟩, rfl⟩ := hr9
                  refine X_tl ?_
                  refine Y_istore_3 i_X10_statement_144 rfl rfl ?_
                  refine Y_iload_3 i_X10_statement_145 ?_
                  refine X_if_eq i_X10_statement_146 (tgt := 158) rfl (zrB _) (fun h146 => ?_) (fun h146 => ?_)
                  · refine X_iconst i_X10_statement_158 ?_
                    refine X_zret i_X10_statement_159 rfl (by omega) ?_
                    have hw := sWf_o (L := L) (s := s) (by omega)
                    have hdk := zrB0 h146
                    have hwv : sWf L s = (s : Int) + 1 + (sDk L ((s : Int) + 1) 1 : Nat) := by rw [hw]; repeat (first | omega | split)
                    have f0 : H2 0 = zwr H 0 (k : Int) (sAt L s) 0 := by rw [a1, zwr_row rfl, zwr_row rfl]
                    have f1 : H2 1 = zwr (zwr H 0 (k : Int) (sAt L s)) 1 (k : Int) (s : Int) 1 := by rw [b1, zwr_row rfl]
                    have f3 : H2 3 1 = k := by rw [c1, zwr_i (by decide), zwr_row rfl, zwr_row rfl, hk]
                    have f2 : ∀ i : Int, i < 3 * (k : Int) → H2 2 i = H 2 i := fun i hi => by rw [o1 i (by omega), zwr_row rfl, zwr_row rfl, zwr_row rfl]
                    exact ⟨by rw [if_neg (by omega)], H2, ⟨f3, by rw [hwv, if_neg (by omega)]; omega, fun z => by omega, fun j j0 j1 => ⟨by rw [f0]; exact zwr_i (by omega), by rw [f1]; exact (zwr_i (by omega)).trans (zwr_r (by decide))⟩, f2⟩, rfl⟩
                  · refine Y_aload_0 i_X10_statement_149 ?_
                    refine Y_callV (k' := kX10_next) i_X10_statement_150 l_X10_82 m_X10_next (c_X10_next (x := (s : Int) + 2) (zs_self _ _ _) (by rw [zs_ne (by decide)]; exact hL2) hL (by rw [d1, zrB1 h146]; omega) (by omega) (by omega)) rfl rfl rfl rfl rfl ?_
                    refine X_bipush i_X10_statement_153 (by decide +kernel) ?_
                    refine X_icmp_eq i_X10_statement_155 (tgt := 160) rfl ⟨by omega, by omega⟩ ⟨by omega, by omega⟩ (fun h155 => ?_) (fun h155 => ?_)
                    · refine Y_aload_0 i_X10_statement_160 ?_
                      refine X_dup i_X10_statement_161 rfl ?_
                      refine Y_getI i_X10_statement_162 f_X10_79 rfl (zg0 _ _ _ _ _) ?_
                      rw [d1, zrB1 h146]
                      refine X_iconst i_X10_statement_165 ?_
                      refine X_iadd i_X10_statement_166 ?_
                      refine Y_putI i_X10_statement_167 f_X10_79 rfl t_7_17 (zp0 _ _ _ _ _ _) ?_
                      refine X_iconst i_X10_statement_170 ?_
                      refine X_zret i_X10_statement_171 rfl (by omega) ?_
                      have hw := sWf_o (L := L) (s := s) (by omega)
                      have hdk := zrB1 h146
                      have hwv : sWf L s = -1 := by rw [hw]; repeat (first | omega | split)
                      have f0 : H2 0 = zwr H 0 (k : Int) (sAt L s) 0 := by rw [a1, zwr_row rfl, zwr_row rfl]
                      have f1 : H2 1 = zwr (zwr H 0 (k : Int) (sAt L s)) 1 (k : Int) (s : Int) 1 := by rw [b1, zwr_row rfl]
                      have f3 : H2 3 1 = k := by rw [c1, zwr_i (by decide), zwr_row rfl, zwr_row rfl, hk]
                      have f2 : ∀ i : Int, i < 3 * (k : Int) → H2 2 i = H 2 i := fun i hi => by rw [o1 i (by omega), zwr_row rfl, zwr_row rfl, zwr_row rfl]
                      have hln : sLn (sAt L s) = 3 := by rcases (by omega : sAt L s = 114 ∨ sAt L s = 111 ∨ sAt L s = 99 ∨ sAt L s = 117) with e | e | e | e <;> rw [e] <;> rfl
                      exact ⟨by rw [if_pos (by omega)], _, ⟨by rw [zwr_i (by decide)]; exact f3, by rw [zr0, hwv, if_pos (by omega), hln]; omega, fun _ => zTl_w ⟨by rw [f0, zr0], by rw [f1, zr0], by rw [if_neg (by omega)]; exact v1 hdk, fun z => by omega⟩, fun j j0 j1 => by rw [zwr_row rfl, zwr_row rfl]; exact (fun j j0 j1 => ⟨by rw [f0]; exact zwr_i (by omega), by rw [f1]; exact (zwr_i (by omega)).trans (zwr_r (by decide))⟩) j j0 j1, fun i hi => by rw [zwr_row rfl]; exact f2 i hi⟩, rfl⟩
                    · refine X_iconst i_X10_statement_158 ?_
                      refine X_zret i_X10_statement_159 rfl (by omega) ?_
                      have hw := sWf_o (L := L) (s := s) (by omega)
                      have hdk := zrB1 h146
                      have hwv : sWf L s = (s : Int) + 2 := by rw [hw]; repeat (first | omega | split)
                      have f0 : H2 0 = zwr H 0 (k : Int) (sAt L s) 0 := by rw [a1, zwr_row rfl, zwr_row rfl]
                      have f1 : H2 1 = zwr (zwr H 0 (k : Int) (sAt L s)) 1 (k : Int) (s : Int) 1 := by rw [b1, zwr_row rfl]
                      have f3 : H2 3 1 = k := by rw [c1, zwr_i (by decide), zwr_row rfl, zwr_row rfl, hk]
                      have f2 : ∀ i : Int, i < 3 * (k : Int) → H2 2 i = H 2 i := fun i hi => by rw [o1 i (by omega), zwr_row rfl, zwr_row rfl, zwr_row rfl]
                      exact ⟨by rw [if_neg (by omega)], H2, ⟨f3, by rw [hwv, if_neg (by omega)]; omega, fun z => by omega, fun j j0 j1 => ⟨by rw [f0]; exact zwr_i (by omega), by rw [f1]; exact (zwr_i (by omega)).trans (zwr_r (by decide))⟩, f2⟩, rfl⟩
                · refine X_iconst i_X10_statement_136 ?_
                  refine X_goto i_X10_statement_137 (tgt := 141) rfl ?_
                  refine Y_callVq (k' := kX10_readsDigits) i_X10_statement_141 l_X10_93 m_X10_readsDigits (c_X10_digits2 hL2 hL (x := (s : Int) + 1) (y := 3 * (k : Int)) zr0 (by omega) (by omega) (by omega) (by omega)) rfl rfl rfl rfl rfl ?_
                  intro r9 M9 hr9
                  obtain ⟨rfl, H2, ⟨a1, b1, c1, d1, o1, v1⟩, rfl⟩ := hr9
                  refine X_tl ?_
                  refine Y_istore_3 i_X10_statement_144 rfl rfl ?_
                  refine Y_iload_3 i_X10_statement_145 ?_
                  refine X_if_eq i_X10_statement_146 (tgt := 158) rfl (zrB _) (fun h146 => ?_) (fun h146 => ?_)
                  · refine X_iconst i_X10_statement_158 ?_
                    refine X_zret i_X10_statement_159 rfl (by omega) ?_
                    have hcb : sAt L s = 109 := by omega
                    have hw := sWf_m hcb
                    have hdk := zrB0 h146
                    have hwv : sWf L s = (s : Int) + 1 + (sDk L ((s : Int) + 1) 2 : Nat) := by rw [hw]; repeat (first | omega | split)
                    have f0 : H2 0 = zwr H 0 (k : Int) (sAt L s) 0 := by rw [a1, zwr_row rfl, zwr_row rfl]
                    have f1 : H2 1 = zwr (zwr H 0 (k : Int) (sAt L s)) 1 (k : Int) (s : Int) 1 := by rw [b1, zwr_row rfl]
                    have f3 : H2 3 1 = k := by rw [c1, zwr_i (by decide), zwr_row rfl, zwr_row rfl, hk]
                    have f2 : ∀ i : Int, i < 3 * (k : Int) → H2 2 i = H 2 i := fun i hi => by rw [o1 i (by omega), zwr_row rfl, zwr_row rfl, zwr_row rfl]
                    exact ⟨by rw [if_neg (by omega)], H2, ⟨f3, by rw [hwv, if_neg (by omega)]; omega, fun z => by omega, fun j j0 j1 => ⟨by rw [f0]; exact zwr_i (by omega), by rw [f1]; exact (zwr_i (by omega)).trans (zwr_r (by decide))⟩, f2⟩, rfl⟩
                  · refine Y_aload_0 i_X10_statement_149 ?_
                    refine Y_callV (k' := kX10_next) i_X10_statement_150 l_X10_82 m_X10_next (c_X10_next (x := (s : Int) + 3) (zs_self _ _ _) (by rw [zs_ne (by decide)]; exact hL2) hL (by rw [d1, zrB1 h146]; omega) (by omega) (by omega)) rfl rfl rfl rfl rfl ?_
                    refine X_bipush i_X10_statement_153 (by decide +kernel) ?_
                    refine X_icmp_eq i_X10_statement_155 (tgt := 160) rfl ⟨by omega, by omega⟩ ⟨by omega, by omega⟩ (fun h155 => ?_) (fun h155 => ?_)
                    · refine Y_aload_0 i_X10_statement_160 ?_
                      refine X_dup i_X10_statement_161 rfl ?_
                      refine Y_getI i_X10_statement_162 f_X10_79 rfl (zg0 _ _ _ _ _) ?_
                      rw [d1, zrB1 h146]
                      refine X_iconst i_X10_statement_165 ?_
                      refine X_iadd i_X10_statement_166 ?_
                      refine Y_putI i_X10_statement_167 f_X10_79 rfl t_7_17 (zp0 _ _ _ _ _ _) ?_
                      refine X_iconst i_X10_statement_170 ?_
                      refine X_zret i_X10_statement_171 rfl (by omega) ?_
                      have hcb : sAt L s = 109 := by omega
                      have hw := sWf_m hcb
                      have hdk := zrB1 h146
                      have hwv : sWf L s = -1 := by rw [hw]; repeat (first | omega | split)
                      have f0 : H2 0 = zwr H 0 (k : Int) (sAt L s) 0 := by rw [a1, zwr_row rfl, zwr_row rfl]
                      have f1 : H2 1 = zwr (zwr H 0 (k : Int) (sAt L s)) 1 (k : Int) (s : Int) 1 := by rw [b1, zwr_row rfl]
                      have f3 : H2 3 1 = k := by rw [c1, zwr_i (by decide), zwr_row rfl, zwr_row rfl, hk]
                      have f2 : ∀ i : Int, i < 3 * (k : Int) → H2 2 i = H 2 i := fun i hi => by rw [o1 i (by omega), zwr_row rfl, zwr_row rfl, zwr_row rfl]
                      have hln : sLn (sAt L s) = 4 := by rw [hcb]; rfl
                      exact ⟨by rw [if_pos (by omega)], _, ⟨by rw [zwr_i (by decide)]; exact f3, by rw [zr0, hwv, if_pos (by omega), hln]; omega, fun _ => zTl_w ⟨by rw [f0, zr0], by rw [f1, zr0], by rw [if_pos (by omega)]; exact v1 hdk, fun z => by omega⟩, fun j j0 j1 => by rw [zwr_row rfl, zwr_row rfl]; exact (fun j j0 j1 => ⟨by rw [f0]; exact zwr_i (by omega), by rw [f1]; exact (zwr_i (by omega)).trans (zwr_r (by decide))⟩) j j0 j1, fun i hi => by rw [zwr_row rfl]; exact f2 i hi⟩, rfl⟩
                    · refine X_iconst i_X10_statement_158 ?_
                      refine X_zret i_X10_statement_159 rfl (by omega) ?_
                      have hcb : sAt L s = 109 := by omega
                      have hw := sWf_m hcb
                      have hdk := zrB1 h146
                      have hwv : sWf L s = (s : Int) + 3 := by rw [hw]; repeat (first | omega | split)
                      have f0 : H2 0 = zwr H 0 (k : Int) (sAt L s) 0 := by rw [a1, zwr_row rfl, zwr_row rfl]
                      have f1 : H2 1 = zwr (zwr H 0 (k : Int) (sAt L s)) 1 (k : Int) (s : Int) 1 := by rw [b1, zwr_row rfl]
                      have f3 : H2 3 1 = k := by rw [c1, zwr_i (by decide), zwr_row rfl, zwr_row rfl, hk]
                      have f2 : ∀ i : Int, i < 3 * (k : Int) → H2 2 i = H 2 i := fun i hi => by rw [o1 i (by omega), zwr_row rfl, zwr_row rfl, zwr_row rfl]
                      exact ⟨by rw [if_neg (by omega)], H2, ⟨f3, by rw [hwv, if_neg (by omega)]; omega, fun z => by omega, fun j j0 j1 => ⟨by rw [f0]; exact zwr_i (by omega), by rw [f1]; exact (zwr_i (by omega)).trans (zwr_r (by decide))⟩, f2⟩, rfl⟩
              · refine Y_aload_0 i_X10_statement_89 ?_
                refine Y_iload_2 i_X10_statement_90 ?_
                refine X_iconst i_X10_statement_91 ?_
                refine Y_callVq (k' := kX10_readsDigits) i_X10_statement_92 l_X10_93 m_X10_readsDigits (c_X10_digits1 hL2 hL (x := (s : Int) + 1) (y := 3 * (k : Int)) zr0 (by omega) (by omega) (by omega) (by omega)) rfl rfl rfl rfl rfl ?_
                intro r9 M9 hr9
                obtain ⟨rfl, H2, ⟨a1, b1, c1, d1, o1, v1⟩, rfl⟩ := hr9
                refine X_tl ?_
                refine Y_ifq_eq i_X10_statement_95 (tgt := 124) rfl  (fun h95 => ?_) (fun h95 => ?_)
                · refine X_iconst i_X10_statement_124 ?_
                  refine X_goto i_X10_statement_125 (tgt := 144) rfl ?_
                  refine Y_istore_3 i_X10_statement_144 rfl rfl ?_
                  refine Y_iload_3 i_X10_statement_145 ?_
                  refine X_if_eq i_X10_statement_146 (tgt := 158) rfl ⟨by omega, by omega⟩ (fun h146 => ?_) (fun h146 => by exfalso; omega)
                  refine X_iconst i_X10_statement_158 ?_
                  refine X_zret i_X10_statement_159 rfl (by omega) ?_
                  have hcb : sAt L s = 103 := by omega
                  have hw := sWf_g hcb
                  have hwv : sWf L s = (s : Int) + 1 := by rw [hw]; repeat (first | omega | split)
                  have f0 : H2 0 = zwr H 0 (k : Int) (sAt L s) 0 := by rw [a1, zwr_row rfl, zwr_row rfl]
                  have f1 : H2 1 = zwr (zwr H 0 (k : Int) (sAt L s)) 1 (k : Int) (s : Int) 1 := by rw [b1, zwr_row rfl]
                  have f3 : H2 3 1 = k := by rw [c1, zwr_i (by decide), zwr_row rfl, zwr_row rfl, hk]
                  have f2 : ∀ i : Int, i < 3 * (k : Int) → H2 2 i = H 2 i := fun i hi => by rw [o1 i (by omega), zwr_row rfl, zwr_row rfl, zwr_row rfl]
                  exact ⟨by rw [if_neg (by omega)], H2, ⟨f3, by rw [hwv, if_neg (by omega)]; omega, fun z => by omega, fun j j0 j1 => ⟨by rw [f0]; exact zwr_i (by omega), by rw [f1]; exact (zwr_i (by omega)).trans (zwr_r (by decide))⟩, f2⟩, rfl⟩
                · refine Y_aload_0 i_X10_statement_98 ?_
                  refine Y_iload_2 i_X10_statement_99 ?_
                  refine X_iconst i_X10_statement_100 ?_
                  refine X_iadd i_X10_statement_101 ?_
                  refine X_iconst i_X10_statement_102 ?_
                  refine Y_callVq (k' := kX10_readsDigits) i_X10_statement_103 l_X10_93 m_X10_readsDigits (c_X10_digits1 hL2 hL (x := (s : Int) + 2) (y := 3 * (k : Int) + 1) (by rw [d1, h95]; omega) (by omega) (by omega) (by omega) (by omega)) rfl rfl rfl rfl rfl ?_
                  intro r9 M9 hr9
                  obtain ⟨rfl, H3, ⟨a2, b2, c2, d2, o2, v2⟩, rfl⟩ := hr9
                  refine X_tl ?_
                  refine Y_ifq_eq i_X10_statement_106 (tgt := 124) rfl  (fun h106 => ?_) (fun h106 => ?_)
                  · refine X_iconst i_X10_statement_124 ?_
                    refine X_goto i_X10_statement_125 (tgt := 144) rfl ?_
                    refine Y_istore_3 i_X10_statement_144 rfl rfl ?_
                    refine Y_iload_3 i_X10_statement_145 ?_
                    refine X_if_eq i_X10_statement_146 (tgt := 158) rfl ⟨by omega, by omega⟩ (fun h146 => ?_) (fun h146 => by exfalso; omega)
                    refine X_iconst i_X10_statement_158 ?_
                    refine X_zret i_X10_statement_159 rfl (by omega) ?_
                    have hcb : sAt L s = 103 := by omega
                    have hw := sWf_g hcb
                    have hwv : sWf L s = (s : Int) + 2 := by rw [hw]; repeat (first | omega | split)
                    have f0 : H3 0 = zwr H 0 (k : Int) (sAt L s) 0 := by rw [a2, a1, zwr_row rfl, zwr_row rfl]
                    have f1 : H3 1 = zwr (zwr H 0 (k : Int) (sAt L s)) 1 (k : Int) (s : Int) 1 := by rw [b2, b1, zwr_row rfl]
                    have f3 : H3 3 1 = k := by rw [c2, c1, zwr_i (by decide), zwr_row rfl, zwr_row rfl, hk]
                    have f2 : ∀ i : Int, i < 3 * (k : Int) → H3 2 i = H 2 i := fun i hi => by rw [o2 i (by omega), o1 i (by omega), zwr_row rfl, zwr_row rfl, zwr_row rfl]
                    exact ⟨by rw [if_neg (by omega)], H3, ⟨f3, by rw [hwv, if_neg (by omega)]; omega, fun z => by omega, fun j j0 j1 => ⟨by rw [f0]; exact zwr_i (by omega), by rw [f1]; exact (zwr_i (by omega)).trans (zwr_r (by decide))⟩, f2⟩, rfl⟩
                  · refine Y_aload_0 i_X10_statement_109 ?_
                    refine Y_iload_2 i_X10_statement_110 ?_
                    refine X_iconst i_X10_statement_111 ?_
                    refine X_iadd i_X10_statement_112 ?_
                    refine X_iconst i_X10_statement_113 ?_
                    refine Y_callVq (k' := kX10_readsDigits) i_X10_statement_114 l_X10_93 m_X10_readsDigits (c_X10_digits2 hL2 hL (x := (s : Int) + 3) (y := 3 * (k : Int) + 2) (by rw [d2, h106]; omega) (by omega) (by omega) (by omega) (by omega)) rfl rfl rfl rfl rfl ?_
                    intro r9 M9 hr9
                    obtain ⟨rfl, H4, ⟨a3, b3, c3, d3, o3, v3⟩, rfl⟩ := hr9
                    refine X_tl ?_
                    refine Y_ifq_eq i_X10_statement_117 (tgt := 124) rfl  (fun h117 => ?_) (fun h117 => ?_)
                    · refine X_iconst i_X10_statement_124 ?_
                      refine X_goto i_X10_statement_125 (tgt := 144) rfl ?_
                      refine Y_istore_3 i_X10_statement_144 rfl rfl ?_
                      refine Y_iload_3 i_X10_statement_145 ?_
                      refine X_if_eq i_X10_statement_146 (tgt := 158) rfl ⟨by omega, by omega⟩ (fun h146 => ?_) (fun h146 => by exfalso; omega)
                      refine X_iconst i_X10_statement_158 ?_
                      refine X_zret i_X10_statement_159 rfl (by omega) ?_
                      have hcb : sAt L s = 103 := by omega
                      have hw := sWf_g hcb
                      have hwv : sWf L s = (s : Int) + 3 + (sDk L ((s : Int) + 3) 2 : Nat) := by rw [hw]; repeat (first | omega | split)
                      have f0 : H4 0 = zwr H 0 (k : Int) (sAt L s) 0 := by rw [a3, a2, a1, zwr_row rfl, zwr_row rfl]
                      have f1 : H4 1 = zwr (zwr H 0 (k : Int) (sAt L s)) 1 (k : Int) (s : Int) 1 := by rw [b3, b2, b1, zwr_row rfl]
                      have f3 : H4 3 1 = k := by rw [c3, c2, c1, zwr_i (by decide), zwr_row rfl, zwr_row rfl, hk]
                      have f2 : ∀ i : Int, i < 3 * (k : Int) → H4 2 i = H 2 i := fun i hi => by rw [o3 i (by omega), o2 i (by omega), o1 i (by omega), zwr_row rfl, zwr_row rfl, zwr_row rfl]
                      exact ⟨by rw [if_neg (by omega)], H4, ⟨f3, by rw [hwv, if_neg (by omega)]; omega, fun z => by omega, fun j j0 j1 => ⟨by rw [f0]; exact zwr_i (by omega), by rw [f1]; exact (zwr_i (by omega)).trans (zwr_r (by decide))⟩, f2⟩, rfl⟩
                    · refine X_iconst i_X10_statement_120 ?_
                      refine X_goto i_X10_statement_121 (tgt := 144) rfl ?_
                      refine Y_istore_3 i_X10_statement_144 rfl rfl ?_
                      refine Y_iload_3 i_X10_statement_145 ?_
                      refine X_if_eq i_X10_statement_146 (tgt := 158) rfl ⟨by omega, by omega⟩ (fun h146 => by exfalso; omega) (fun h146 => ?_)
                      refine Y_aload_0 i_X10_statement_149 ?_
                      refine Y_callV (k' := kX10_next) i_X10_statement_150 l_X10_82 m_X10_next (c_X10_next (x := (s : Int) + 5) (zs_self _ _ _) (by rw [zs_ne (by decide)]; exact hL2) hL (by rw [d3, h117]; omega) (by omega) (by omega)) rfl rfl rfl rfl rfl ?_
                      refine X_bipush i_X10_statement_153 (by decide +kernel) ?_
                      refine X_icmp_eq i_X10_statement_155 (tgt := 160) rfl ⟨by omega, by omega⟩ ⟨by omega, by omega⟩ (fun h155 => ?_) (fun h155 => ?_)
                      · refine Y_aload_0 i_X10_statement_160 ?_
                        refine X_dup i_X10_statement_161 rfl ?_
                        refine Y_getI i_X10_statement_162 f_X10_79 rfl (zg0 _ _ _ _ _) ?_
                        rw [d3, h117]
                        refine X_iconst i_X10_statement_165 ?_
                        refine X_iadd i_X10_statement_166 ?_
                        refine Y_putI i_X10_statement_167 f_X10_79 rfl t_7_17 (zp0 _ _ _ _ _ _) ?_
                        refine X_iconst i_X10_statement_170 ?_
                        refine X_zret i_X10_statement_171 rfl (by omega) ?_
                        have hcb : sAt L s = 103 := by omega
                        have hw := sWf_g hcb
                        have hwv : sWf L s = -1 := by rw [hw]; repeat (first | omega | split)
                        have f0 : H4 0 = zwr H 0 (k : Int) (sAt L s) 0 := by rw [a3, a2, a1, zwr_row rfl, zwr_row rfl]
                        have f1 : H4 1 = zwr (zwr H 0 (k : Int) (sAt L s)) 1 (k : Int) (s : Int) 1 := by rw [b3, b2, b1, zwr_row rfl]
                        have f3 : H4 3 1 = k := by rw [c3, c2, c1, zwr_i (by decide), zwr_row rfl, zwr_row rfl, hk]
                        have f2 : ∀ i : Int, i < 3 * (k : Int) → H4 2 i = H 2 i := fun i hi => by rw [o3 i (by omega), o2 i (by omega), o1 i (by omega), zwr_row rfl, zwr_row rfl, zwr_row rfl]
                        have hln : sLn (sAt L s) = 6 := by rw [hcb]; rfl
                        exact ⟨by rw [if_pos (by omega)], _, ⟨by rw [zwr_i (by decide)]; exact f3, by rw [zr0, hwv, if_pos (by omega), hln]; omega, fun _ => zTl_w ⟨by rw [f0, zr0], by rw [f1, zr0], by rw [if_neg (by omega), o3 _ (by omega), o2 _ (by omega)]; exact v1 h95, fun _ => ⟨by rw [o3 _ (by omega)]; exact v2 h106, v3 h117⟩⟩, fun j j0 j1 => by rw [zwr_row rfl, zwr_row rfl]; exact (fun j j0 j1 => ⟨by rw [f0]; exact zwr_i (by omega), by rw [f1]; exact (zwr_i (by omega)).trans (zwr_r (by decide))⟩) j j0 j1, fun i hi => by rw [zwr_row rfl]; exact f2 i hi⟩, rfl⟩
                      · refine X_iconst i_X10_statement_158 ?_
                        refine X_zret i_X10_statement_159 rfl (by omega) ?_
                        have hcb : sAt L s = 103 := by omega
                        have hw := sWf_g hcb
                        have hwv : sWf L s = (s : Int) + 5 := by rw [hw]; repeat (first | omega | split)
                        have f0 : H4 0 = zwr H 0 (k : Int) (sAt L s) 0 := by rw [a3, a2, a1, zwr_row rfl, zwr_row rfl]
                        have f1 : H4 1 = zwr (zwr H 0 (k : Int) (sAt L s)) 1 (k : Int) (s : Int) 1 := by rw [b3, b2, b1, zwr_row rfl]
                        have f3 : H4 3 1 = k := by rw [c3, c2, c1, zwr_i (by decide), zwr_row rfl, zwr_row rfl, hk]
                        have f2 : ∀ i : Int, i < 3 * (k : Int) → H4 2 i = H 2 i := fun i hi => by rw [o3 i (by omega), o2 i (by omega), o1 i (by omega), zwr_row rfl, zwr_row rfl, zwr_row rfl]
                        exact ⟨by rw [if_neg (by omega)], H4, ⟨f3, by rw [hwv, if_neg (by omega)]; omega, fun z => by omega, fun j j0 j1 => ⟨by rw [f0]; exact zwr_i (by omega), by rw [f1]; exact (zwr_i (by omega)).trans (zwr_r (by decide))⟩, f2⟩, rfl⟩
            · refine X_iconst i_X10_statement_41 ?_
              refine X_zret i_X10_statement_42 rfl (by omega) ?_
              have hwv : sWf L s = s := sWf_u (by omega)
              exact ⟨by rw [if_neg (by omega)], H, ⟨hk, by rw [hwv, if_neg (by omega)]; exact hs, fun z => by omega, fun j _ _ => ⟨rfl, rfl⟩, fun i _ => rfl⟩, rfl⟩
