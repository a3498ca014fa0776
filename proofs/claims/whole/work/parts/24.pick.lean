set_option maxRecDepth 100000 in
theorem c_X10_gone {M N : zMem} {S K : zAft} (hA : zOk 999 (N 0)) (hS : zSv S) {w : Int} (h_w : zR w) : zCt kX10_gone 5 [.ref 38, .int (zii w)] ((zs (zs (zs M 14 S) 13 K) 3 (N 0))) (zAy (w_gone N w) (.int (zii (w_gone N w))) (.int (zii (a_gone N w))) (zs (zs (zs M 14 S) 13 K) 3 (N 0)) (zs (zs (zs M 14 S) 13 K) 3 (N 0))) := by
  have h6 := hA.1
  unfold zH at h6
  have hG := sG_le hA.1
  have b_w := h_w.1
  have c_w := h_w.2
  have hgb := sGB_all (A := N 0) (by omega) hG.2
  have hgl := sTg_le (N 0) (-1)
  refine zMet (by decide) (Nat.le_of_ble_eq_true rfl) ?_
  show zX kX10_gone 5 0 [some (.ref 38), some (.int (zii w)), none, none, none, none] [] _ _
  refine Y_iload_1 i_X10_gone_0 ?_
  refine X_iconst i_X10_gone_1 ?_
  refine X_iconst i_X10_gone_2 ?_
  refine Y_callS (k' := kX10_isIn) i_X10_gone_3 l_X10_86 m_X10_isIn (c_X10_isIn ⟨by omega, by omega⟩ (zR_lit rfl) (zR_lit rfl)) rfl rfl rfl rfl ?_
  refine Y_ifq_ne i_X10_gone_6 (tgt := 16) rfl  (fun h6 => ?_) (fun h6 => ?_)
  · refine Y_iload_1 i_X10_gone_16 ?_
    refine X_iconst i_X10_gone_17 ?_
    refine Y_icmp_ne i_X10_gone_18 (tgt := 33) rfl ⟨by omega, by omega⟩ ⟨by omega, by omega⟩ (fun h18 => ?_) (fun h18 => ?_)
    · refine X_bipush i_X10_gone_33 (by decide +kernel) ?_
      refine Y_istore_2 i_X10_gone_35 rfl rfl ?_
      refine X_bipush i_X10_gone_36 (by decide +kernel) ?_
      refine Y_istore_3 i_X10_gone_38 rfl rfl ?_
      refine X_iconst i_X10_gone_39 ?_
      refine Y_istore_4 i_X10_gone_40 rfl rfl ?_
      have loop : ∀ (n : Nat) (j : Nat) (T R : zAft) (L : Option Value), j + n = sG (N 0) → zSv T → zKe 42 K R → zX kX10_gone 5 42 [some (.ref 38), some (.int (zii w)), some (.int (zii (sW 100 (fun g : Nat => (sWh (N 0) (g : Int) : Int)) (-9) j))), some (.int (zii (sS 100 (fun g : Nat => (sWh (N 0) (g : Int) : Int)) j))), some (.int (zii j)), L] [] (zs (zs (zs M 14 T) 13 R) 3 (N 0)) (zAy (w_gone N w) (.int (zii (w_gone N w))) (.int (zii (a_gone N w))) (zs (zs (zs M 14 S) 13 K) 3 (N 0)) (zs (zs (zs M 14 S) 13 K) 3 (N 0))) := by
        intro n
        induction n with
        | zero =>
          intro j T R L hg hT hR
          obtain rfl : j = sG (N 0) := by omega
          have hq := sS_in (lim := 100) (f := (fun g : Nat => (sWh (N 0) (g : Int) : Int))) (fun n => by show (0 : Int) ≤ _; omega) (by omega) (sG (N 0))
          refine Y_iload_4 i_X10_gone_42 ?_
          refine Y_aload_0 i_X10_gone_44 ?_
          refine Y_getI i_X10_gone_45 f_X10_65 rfl (zg0 _ _ _ _ _) ?_
          refine X_icmp_ge i_X10_gone_48 (tgt := 82) rfl ⟨by omega, by omega⟩ ⟨by omega, by omega⟩ (fun h48 => ?_) (fun h48 => by exfalso; omega)
          refine Y_iload_2 i_X10_gone_82 ?_
          refine X_iret i_X10_gone_83 rfl ?_
          exact zay0 (by unfold w_gone; (try rw [sFb2_e]); repeat (first | omega | split)) (zvi (by unfold a_gone; rw [if_pos (by omega)]; exact gone_eq (N 0))) (zey_s hT hR)
        | succ n ih =>
          intro j T R L hg hT hR
          have hq := sS_in (lim := 100) (f := (fun g : Nat => (sWh (N 0) (g : Int) : Int))) (fun n => by show (0 : Int) ≤ _; omega) (by omega) j
          have hgb := sGB_one (A := N 0) (x := j) (by omega) (by omega)
          have hgl := sWh_le (N 0) j
          refine Y_iload_4 i_X10_gone_42 ?_
          refine Y_aload_0 i_X10_gone_44 ?_
          refine Y_getI i_X10_gone_45 f_X10_65 rfl (zg0 _ _ _ _ _) ?_
          refine X_icmp_ge i_X10_gone_48 (tgt := 82) rfl ⟨by omega, by omega⟩ ⟨by omega, by omega⟩ (fun h48 => by exfalso; omega) (fun h48 => ?_)
          refine Y_aload_0 i_X10_gone_51 ?_
          refine X_iconst i_X10_gone_52 ?_
          refine Y_iload_4 i_X10_gone_53 ?_
          refine X_ishl i_X10_gone_55 ?_
          refine Y_callVq (k' := kX10_goneBy) i_X10_gone_56 l_X10_222 m_X10_goneBy (c_X10_goneBy hA hT) rfl rfl rfl rfl rfl ?_
          intro r9 M9 hr9
          obtain ⟨rfl, S1, K1, hS1, hk1, rfl⟩ := hr9
          refine X_tl ?_
          rw [hgb]
          refine Y_istore_5 i_X10_gone_59 rfl rfl ?_
          refine Y_iload_5 i_X10_gone_61 ?_
          refine Y_iload_3 i_X10_gone_63 ?_
          refine X_icmp_lt i_X10_gone_64 (tgt := 70) rfl ⟨by omega, by omega⟩ ⟨by omega, by omega⟩ (fun h64 => ?_) (fun h64 => ?_)
          · refine Y_iload_4 i_X10_gone_70 ?_
            refine Y_istore_2 i_X10_gone_72 rfl rfl ?_
            refine Y_iload_5 i_X10_gone_73 ?_
            refine Y_istore_3 i_X10_gone_75 rfl rfl ?_
            refine Y_iinc_4 i_X10_gone_76 rfl rfl ?_
            refine X_goto i_X10_gone_79 (tgt := 42) rfl ?_
            exact X_eq (ih (j + 1) S1 K1 _ (by omega) hS1 (hR.tr hk1.mo)) (by simp only [sS, sW]; rw [if_pos h64, if_pos h64]; rfl) rfl rfl
          · refine X_goto i_X10_gone_67 (tgt := 76) rfl ?_
            refine Y_iinc_4 i_X10_gone_76 rfl rfl ?_
            refine X_goto i_X10_gone_79 (tgt := 42) rfl ?_
            exact X_eq (ih (j + 1) S1 K1 _ (by omega) hS1 (hR.tr hk1.mo)) (by simp only [sS, sW]; rw [if_neg h64, if_neg h64]; rfl) rfl rfl
      exact loop (sG (N 0)) 0 S K _ (by omega) hS zKe.rf
    · refine Y_aload_0 i_X10_gone_21 ?_
      refine Y_aload_0 i_X10_gone_22 ?_
      refine Y_callV (k' := kX10_everybody) i_X10_gone_23 l_X10_228 m_X10_everybody (c_X10_everybody (zs_self _ _ _) hA) rfl rfl rfl rfl rfl ?_
      refine Y_callVq (k' := kX10_goneBy) i_X10_gone_26 l_X10_222 m_X10_goneBy (c_X10_goneBy hA hS) rfl rfl rfl rfl rfl ?_
      intro r9 M9 hr9
      obtain ⟨rfl, S1, K1, hS1, hk1, rfl⟩ := hr9
      refine X_tl ?_
      rw [hgb]
      refine Y_callS (k' := kX10_orNone) i_X10_gone_29 l_X10_225 m_X10_orNone (c_X10_orNone ⟨by omega, by omega⟩) rfl rfl rfl rfl ?_
      refine X_iret i_X10_gone_32 rfl ?_
      exact zay0 (by unfold w_gone; (try rw [sFb2_e]); repeat (first | omega | split)) (zvi (by unfold a_gone; rw [if_neg (by omega)]; rfl)) (zey_s hS1 hk1.mo)
  · refine Y_aload_0 i_X10_gone_9 ?_
    refine X_bipush i_X10_gone_10 (by decide +kernel) ?_
    refine Y_callV (k' := kX10_no) i_X10_gone_12 l_X10_75 m_X10_no (c_X10_no (by omega) (by omega)) rfl rfl rfl rfl rfl ?_
    refine X_iret i_X10_gone_15 rfl ?_
    exact zay1 (by unfold w_gone; (try rw [sFb2_e]); repeat (first | omega | split)) (by omega) hS
set_option maxRecDepth 100000 in
theorem c_X10_thirsty {M N : zMem} {S K : zAft} (hA : zOk 999 (N 0)) (hS : zSv S) {w : Int} (h_w : zR w) : zCt kX10_thirsty 5 [.ref 38, .int (zii w)] ((zs (zs (zs M 14 S) 13 K) 3 (N 0))) (zAy (w_thirsty N w) (.int (zii (w_thirsty N w))) (.int (zii (a_thirsty N w))) (zs (zs (zs M 14 S) 13 K) 3 (N 0)) (zs (zs (zs M 14 S) 13 K) 3 (N 0))) := by
  have h6 := hA.1
  unfold zH at h6
  have hG := sG_le hA.1
  have b_w := h_w.1
  have c_w := h_w.2
  refine zMet (by decide) (Nat.le_of_ble_eq_true rfl) ?_
  show zX kX10_thirsty 5 0 [some (.ref 38), some (.int (zii w)), none, none, none] [] _ _
  refine Y_iload_1 i_X10_thirsty_0 ?_
  refine X_iconst i_X10_thirsty_1 ?_
  refine X_iconst i_X10_thirsty_2 ?_
  refine Y_callS (k' := kX10_isIn) i_X10_thirsty_3 l_X10_86 m_X10_isIn (c_X10_isIn ⟨by omega, by omega⟩ (zR_lit rfl) (zR_lit rfl)) rfl rfl rfl rfl ?_
  refine Y_ifq_ne i_X10_thirsty_6 (tgt := 16) rfl  (fun h6 => ?_) (fun h6 => ?_)
  · refine X_iconst i_X10_thirsty_16 ?_
    refine Y_istore_2 i_X10_thirsty_17 rfl rfl ?_
    refine X_iconst i_X10_thirsty_18 ?_
    refine Y_istore_3 i_X10_thirsty_19 rfl rfl ?_
    have loop : ∀ (n : Nat) (j : Nat) (T R : zAft) (L : Option Value), j + n = sG (N 0) → zSv T → zKe 42 K R → zX kX10_thirsty 5 20 [some (.ref 38), some (.int (zii w)), some (.int (zii (sTsq (N 0) w j))), some (.int (zii j)), L] [] (zs (zs (zs M 14 T) 13 R) 3 (N 0)) (zAy (w_thirsty N w) (.int (zii (w_thirsty N w))) (.int (zii (a_thirsty N w))) (zs (zs (zs M 14 S) 13 K) 3 (N 0)) (zs (zs (zs M 14 S) 13 K) 3 (N 0))) := by
      intro n
      induction n with
      | zero =>
        intro j T R L hg hT hR
        obtain rfl : j = sG (N 0) := by omega
        refine Y_iload_3 i_X10_thirsty_20 ?_
        refine Y_aload_0 i_X10_thirsty_21 ?_
        refine Y_getI i_X10_thirsty_22 f_X10_65 rfl (zg0 _ _ _ _ _) ?_
        refine X_icmp_ge i_X10_thirsty_25 (tgt := 97) rfl ⟨by omega, by omega⟩ ⟨by omega, by omega⟩ (fun h25 => ?_) (fun h25 => by exfalso; omega)
        refine Y_iload_2 i_X10_thirsty_97 ?_
        refine X_iret i_X10_thirsty_98 rfl ?_
        exact zay0 (by unfold w_thirsty; (try rw [sFb2_e]); repeat (first | omega | split)) (zvi (by unfold a_thirsty; exact thirsty_eq hA w)) (zey_s hT hR)
      | succ n ih =>
        intro j T R L hg hT hR
        have hgb := sGB_one (A := N 0) (x := j) (by omega) (by omega)
        have hgl := sWh_le (N 0) j
        have hgx := hA.2 j (by omega) (by omega)
        unfold zG at hgx
        have hdl : -9 ≤ s9 (sDr (N 0) j) ∧ s9 (sDr (N 0) j) ≤ 100 := by
          have h9 := sFst_le (fun q => decide (sRun (N 0) q 3 (j : Int) = 2)) 100
          change sDr (N 0) j ≤ 100 at h9
          unfold s9; split <;> omega
        refine Y_iload_3 i_X10_thirsty_20 ?_
        refine Y_aload_0 i_X10_thirsty_21 ?_
        refine Y_getI i_X10_thirsty_22 f_X10_65 rfl (zg0 _ _ _ _ _) ?_
        refine X_icmp_ge i_X10_thirsty_25 (tgt := 97) rfl ⟨by omega, by omega⟩ ⟨by omega, by omega⟩ (fun h25 => by exfalso; omega) (fun h25 => ?_)
        refine Y_iload_1 i_X10_thirsty_28 ?_
        refine Y_if_ne i_X10_thirsty_29 (tgt := 57) rfl ⟨by omega, by omega⟩ (fun h29 => ?_) (fun h29 => ?_)
        · refine Y_aload_0 i_X10_thirsty_57 ?_
          refine X_iconst i_X10_thirsty_58 ?_
          refine Y_iload_3 i_X10_thirsty_59 ?_
          refine X_ishl i_X10_thirsty_60 ?_
          refine Y_callVq (k' := kX10_goneBy) i_X10_thirsty_61 l_X10_222 m_X10_goneBy (c_X10_goneBy hA hT) rfl rfl rfl rfl rfl ?_
          intro r9 M9 hr9
          obtain ⟨rfl, S1, K1, hS1, hk1, rfl⟩ := hr9
          refine X_tl ?_
          rw [hgb]
          refine X_bipush i_X10_thirsty_64 (by decide +kernel) ?_
          refine Y_icmp_ne i_X10_thirsty_66 (tgt := 73) rfl ⟨by omega, by omega⟩ ⟨by omega, by omega⟩ (fun h66 => ?_) (fun h66 => ?_)
          · refine X_iconst i_X10_thirsty_73 ?_
            refine Y_istore_4 i_X10_thirsty_74 rfl rfl ?_
            refine Y_iload_2 i_X10_thirsty_76 ?_
            refine Y_iload_4 i_X10_thirsty_77 ?_
            refine X_if_eq i_X10_thirsty_79 (tgt := 88) rfl ⟨by omega, by omega⟩ (fun h79 => ?_) (fun h79 => by exfalso; omega)
            refine X_iconst i_X10_thirsty_88 ?_
            refine X_ior i_X10_thirsty_89 ?_
            refine Y_istore_2 i_X10_thirsty_90 rfl rfl ?_
            refine Y_iinc_3 i_X10_thirsty_91 rfl rfl ?_
            refine X_goto i_X10_thirsty_94 (tgt := 20) rfl ?_
            exact X_eq (ih (j + 1) S1 K1 _ (by omega) hS1 (hR.tr hk1.mo)) (by simp only [sTsq]; rw [if_neg (by omega)]; first | rfl | (rw [zor_0]; rfl)) rfl rfl
          · refine X_iconst i_X10_thirsty_69 ?_
            refine X_goto i_X10_thirsty_70 (tgt := 74) rfl ?_
            refine Y_istore_4 i_X10_thirsty_74 rfl rfl ?_
            refine Y_iload_2 i_X10_thirsty_76 ?_
            refine Y_iload_4 i_X10_thirsty_77 ?_
            refine X_if_eq i_X10_thirsty_79 (tgt := 88) rfl ⟨by omega, by omega⟩ (fun h79 => by exfalso; omega) (fun h79 => ?_)
            refine X_iconst i_X10_thirsty_82 ?_
            refine Y_iload_3 i_X10_thirsty_83 ?_
            refine X_ishl i_X10_thirsty_84 ?_
            refine X_goto i_X10_thirsty_85 (tgt := 89) rfl ?_
            refine X_ior i_X10_thirsty_89 ?_
            refine Y_istore_2 i_X10_thirsty_90 rfl rfl ?_
            refine Y_iinc_3 i_X10_thirsty_91 rfl rfl ?_
            refine X_goto i_X10_thirsty_94 (tgt := 20) rfl ?_
            exact X_eq (ih (j + 1) S1 K1 _ (by omega) hS1 (hR.tr hk1.mo)) (by simp only [sTsq]; rw [if_pos (by omega)]; first | rfl | (rw [zor_0]; rfl)) rfl rfl
        · refine Y_aload_0 i_X10_thirsty_32 ?_
          refine Y_iload_3 i_X10_thirsty_33 ?_
          refine Y_callVq (k' := kX10_tasteOf) i_X10_thirsty_34 l_X10_231 m_X10_tasteOf (c_X10_tasteOf hA hT (by omega) (by omega)) rfl rfl rfl rfl rfl ?_
          intro r9 M9 hr9
          obtain ⟨rfl, S1, K1, hS1, hk1, rfl⟩ := hr9
          refine X_tl ?_
          refine X_if_ge i_X10_thirsty_37 (tgt := 53) rfl ⟨by omega, by omega⟩ (fun h37 => ?_) (fun h37 => ?_)
          · refine X_iconst i_X10_thirsty_53 ?_
            refine X_goto i_X10_thirsty_54 (tgt := 74) rfl ?_
            refine Y_istore_4 i_X10_thirsty_74 rfl rfl ?_
            refine Y_iload_2 i_X10_thirsty_76 ?_
            refine Y_iload_4 i_X10_thirsty_77 ?_
            refine X_if_eq i_X10_thirsty_79 (tgt := 88) rfl ⟨by omega, by omega⟩ (fun h79 => ?_) (fun h79 => by exfalso; omega)
            refine X_iconst i_X10_thirsty_88 ?_
            refine X_ior i_X10_thirsty_89 ?_
            refine Y_istore_2 i_X10_thirsty_90 rfl rfl ?_
            refine Y_iinc_3 i_X10_thirsty_91 rfl rfl ?_
            refine X_goto i_X10_thirsty_94 (tgt := 20) rfl ?_
            exact X_eq (ih (j + 1) S1 K1 _ (by omega) hS1 (hR.tr hk1.mo)) (by simp only [sTsq]; rw [if_neg (by omega)]; first | rfl | (rw [zor_0]; rfl)) rfl rfl
          · refine Y_aload_0 i_X10_thirsty_40 ?_
            refine X_getR i_X10_thirsty_41 f_X10_28 rfl ?_
            refine Y_iload_3 i_X10_thirsty_44 ?_
            refine Y_iald i_X10_thirsty_45 rfl ⟨by omega, by omega⟩ rfl (zg0 _ _ _ _ _) ?_
            refine Y_if_ne i_X10_thirsty_46 (tgt := 53) rfl ⟨by omega, by omega⟩ (fun h46 => ?_) (fun h46 => ?_)
            · refine X_iconst i_X10_thirsty_53 ?_
              refine X_goto i_X10_thirsty_54 (tgt := 74) rfl ?_
              refine Y_istore_4 i_X10_thirsty_74 rfl rfl ?_
              refine Y_iload_2 i_X10_thirsty_76 ?_
              refine Y_iload_4 i_X10_thirsty_77 ?_
              refine X_if_eq i_X10_thirsty_79 (tgt := 88) rfl ⟨by omega, by omega⟩ (fun h79 => ?_) (fun h79 => by exfalso; omega)
              refine X_iconst i_X10_thirsty_88 ?_
              refine X_ior i_X10_thirsty_89 ?_
              refine Y_istore_2 i_X10_thirsty_90 rfl rfl ?_
              refine Y_iinc_3 i_X10_thirsty_91 rfl rfl ?_
              refine X_goto i_X10_thirsty_94 (tgt := 20) rfl ?_
              exact X_eq (ih (j + 1) S1 K1 _ (by omega) hS1 (hR.tr hk1.mo)) (by simp only [sTsq]; rw [if_neg (by omega)]; first | rfl | (rw [zor_0]; rfl)) rfl rfl
            · refine X_iconst i_X10_thirsty_49 ?_
              refine X_goto i_X10_thirsty_50 (tgt := 74) rfl ?_
              refine Y_istore_4 i_X10_thirsty_74 rfl rfl ?_
              refine Y_iload_2 i_X10_thirsty_76 ?_
              refine Y_iload_4 i_X10_thirsty_77 ?_
              refine X_if_eq i_X10_thirsty_79 (tgt := 88) rfl ⟨by omega, by omega⟩ (fun h79 => by exfalso; omega) (fun h79 => ?_)
              refine X_iconst i_X10_thirsty_82 ?_
              refine Y_iload_3 i_X10_thirsty_83 ?_
              refine X_ishl i_X10_thirsty_84 ?_
              refine X_goto i_X10_thirsty_85 (tgt := 89) rfl ?_
              refine X_ior i_X10_thirsty_89 ?_
              refine Y_istore_2 i_X10_thirsty_90 rfl rfl ?_
              refine Y_iinc_3 i_X10_thirsty_91 rfl rfl ?_
              refine X_goto i_X10_thirsty_94 (tgt := 20) rfl ?_
              exact X_eq (ih (j + 1) S1 K1 _ (by omega) hS1 (hR.tr hk1.mo)) (by simp only [sTsq]; rw [if_pos (by omega)]; first | rfl | (rw [zor_0]; rfl)) rfl rfl
    exact loop (sG (N 0)) 0 S K _ (by omega) hS zKe.rf
  · refine Y_aload_0 i_X10_thirsty_9 ?_
    refine X_bipush i_X10_thirsty_10 (by decide +kernel) ?_
    refine Y_callV (k' := kX10_no) i_X10_thirsty_12 l_X10_75 m_X10_no (c_X10_no (by omega) (by omega)) rfl rfl rfl rfl rfl ?_
    refine X_iret i_X10_thirsty_15 rfl ?_
    exact zay1 (by unfold w_thirsty; (try rw [sFb2_e]); repeat (first | omega | split)) (by omega) hS
set_option maxRecDepth 100000 in
theorem c_X10_bestRise {M N : zMem} {S K : zAft} (hA : zOk 999 (N 0)) (hS : zSv S) {x : Int} (h_x : zR x) {w : Int} (h_w : zR w) : zCt kX10_bestRise 5 [.ref 38, .int (zii x), .int (zii w)] ((zs (zs (zs M 14 S) 13 K) 3 (N 0))) (zAy (w_bestRise N x w) (.int (zii (w_bestRise N x w))) (.int (zii (a_bestRise N x w))) (zs (zs (zs M 14 S) 13 K) 3 (N 0)) (zs (zs (zs M 14 S) 13 K) 3 (N 0))) := by
  have h6 := hA.1
  unfold zH at h6
  have hG := sG_le hA.1
  have b_x := h_x.1
  have c_x := h_x.2
  have b_w := h_w.1
  have c_w := h_w.2
  refine zMet (by decide) (Nat.le_of_ble_eq_true rfl) ?_
  show zX kX10_bestRise 5 0 [some (.ref 38), some (.int (zii x)), some (.int (zii w)), none, none, none, none, none] [] _ _
  refine Y_aload_0 i_X10_bestRise_0 ?_
  refine Y_iload_1 i_X10_bestRise_1 ?_
  refine Y_callV (k' := kX10_isGuest) i_X10_bestRise_2 l_X10_111 m_X10_isGuest (c_X10_isGuest (zs_self _ _ _) hA ⟨by omega, by omega⟩) rfl rfl rfl rfl rfl ?_
  refine Y_ifq_ne i_X10_bestRise_5 (tgt := 12) rfl  (fun h5 => ?_) (fun h5 => ?_)
  · refine Y_iload_2 i_X10_bestRise_12 ?_
    refine X_iconst i_X10_bestRise_13 ?_
    refine X_iconst i_X10_bestRise_14 ?_
    refine Y_callS (k' := kX10_isIn) i_X10_bestRise_15 l_X10_86 m_X10_isIn (c_X10_isIn ⟨by omega, by omega⟩ (zR_lit rfl) (zR_lit rfl)) rfl rfl rfl rfl ?_
    refine Y_ifq_ne i_X10_bestRise_18 (tgt := 26) rfl  (fun h18 => ?_) (fun h18 => ?_)
    · refine X_iconst i_X10_bestRise_26 ?_
      refine Y_istore_3 i_X10_bestRise_27 rfl rfl ?_
      refine Y_iload_3 i_X10_bestRise_28 ?_
      refine X_if_eq i_X10_bestRise_29 (tgt := 38) rfl ⟨by omega, by omega⟩ (fun h29 => ?_) (fun h29 => by exfalso; omega)
      refine X_bipush i_X10_bestRise_38 (by decide +kernel) ?_
      refine Y_istore_4 i_X10_bestRise_40 rfl rfl ?_
      refine X_bipush i_X10_bestRise_42 (by decide +kernel) ?_
      refine Y_istore_5 i_X10_bestRise_44 rfl rfl ?_
      refine X_iconst i_X10_bestRise_46 ?_
      refine Y_istore_6 i_X10_bestRise_47 rfl rfl ?_
      have loop : ∀ (n : Nat) (j : Nat) (T R : zAft) (L : Option Value), j + n = 31 → zSv T → zKe 42 K R → zX kX10_bestRise 5 49 [some (.ref 38), some (.int (zii x)), some (.int (zii w)), some (.int (zii 0)), some (.int (zii (sW 100 (fun m : Nat => (sWr (N 0) x (m : Int) : Int)) (-9) j))), some (.int (zii (sS 100 (fun m : Nat => (sWr (N 0) x (m : Int) : Int)) j))), some (.int (zii j)), L] [] (zs (zs (zs M 14 T) 13 R) 3 (N 0)) (zAy (w_bestRise N x w) (.int (zii (w_bestRise N x w))) (.int (zii (a_bestRise N x w))) (zs (zs (zs M 14 S) 13 K) 3 (N 0)) (zs (zs (zs M 14 S) 13 K) 3 (N 0))) := by
        intro n
        induction n with
        | zero =>
          intro j T R L hg hT hR
          obtain rfl : j = 31 := by omega
          have hq := sS_in (lim := 100) (f := (fun m : Nat => (sWr (N 0) x (m : Int) : Int))) (fun n => by show (0 : Int) ≤ _; omega) (by omega) (31)
          refine Y_iload_6 i_X10_bestRise_49 ?_
          refine X_bipush i_X10_bestRise_51 (by decide +kernel) ?_
          refine X_icmp_gt i_X10_bestRise_53 (tgt := 89) rfl ⟨by omega, by omega⟩ ⟨by omega, by omega⟩ (fun h53 => ?_) (fun h53 => by exfalso; omega)
          refine Y_iload_2 i_X10_bestRise_89 ?_
          refine Y_if_ne i_X10_bestRise_90 (tgt := 98) rfl ⟨by omega, by omega⟩ (fun h90 => ?_) (fun h90 => ?_)
          · refine Y_iload_5 i_X10_bestRise_98 ?_
            refine Y_callS (k' := kX10_orNone) i_X10_bestRise_100 l_X10_225 m_X10_orNone (c_X10_orNone ⟨by omega, by omega⟩) rfl rfl rfl rfl ?_
            refine X_iret i_X10_bestRise_103 rfl ?_
            exact zay0 (by unfold w_bestRise; (try rw [sFb2_e]); repeat (first | omega | split)) (zvi (by unfold a_bestRise; rw [if_neg h90])) (zey_s hT hR)
          · refine Y_iload_4 i_X10_bestRise_93 ?_
            refine X_goto i_X10_bestRise_95 (tgt := 103) rfl ?_
            refine X_iret i_X10_bestRise_103 rfl ?_
            exact zay0 (by unfold w_bestRise; (try rw [sFb2_e]); repeat (first | omega | split)) (zvi (by unfold a_bestRise; rw [if_pos h90])) (zey_s hT hR)
        | succ n ih =>
          intro j T R L hg hT hR
          have hq := sS_in (lim := 100) (f := (fun m : Nat => (sWr (N 0) x (m : Int) : Int))) (fun n => by show (0 : Int) ≤ _; omega) (by omega) j
          have hgl := sWr_le (N 0) x j
          refine Y_iload_6 i_X10_bestRise_49 ?_
          refine X_bipush i_X10_bestRise_51 (by decide +kernel) ?_
          refine X_icmp_gt i_X10_bestRise_53 (tgt := 89) rfl ⟨by omega, by omega⟩ ⟨by omega, by omega⟩ (fun h53 => by exfalso; omega) (fun h53 => ?_)
          refine Y_aload_0 i_X10_bestRise_56 ?_
          refine Y_iload_1 i_X10_bestRise_57 ?_
          refine Y_iload_6 i_X10_bestRise_58 ?_
          refine Y_callVq (k' := kX10_goneRisingIn) i_X10_bestRise_60 l_X10_244 m_X10_goneRisingIn (c_X10_goneRisingIn hA hT (by omega) (by omega) (zR_lit_n (by omega))) rfl rfl rfl rfl rfl ?_
          intro r9 M9 hr9
          obtain ⟨rfl, S1, K1, hS1, hk1, rfl⟩ := hr9
          refine X_tl ?_
          refine Y_istore_7 i_X10_bestRise_63 rfl rfl ?_
          refine Y_iload_7 i_X10_bestRise_65 ?_
          refine Y_iload_5 i_X10_bestRise_67 ?_
          refine X_icmp_lt i_X10_bestRise_69 (tgt := 75) rfl ⟨by omega, by omega⟩ ⟨by omega, by omega⟩ (fun h69 => ?_) (fun h69 => ?_)
          · refine Y_iload_6 i_X10_bestRise_75 ?_
            refine Y_istore_4 i_X10_bestRise_77 rfl rfl ?_
            refine Y_iload_7 i_X10_bestRise_79 ?_
            refine Y_istore_5 i_X10_bestRise_81 rfl rfl ?_
            refine Y_iinc_6 i_X10_bestRise_83 rfl rfl ?_
            refine X_goto i_X10_bestRise_86 (tgt := 49) rfl ?_
            exact X_eq (ih (j + 1) S1 K1 _ (by omega) hS1 (hR.tr hk1)) (by simp only [sS, sW]; rw [if_pos h69, if_pos h69]; rfl) rfl rfl
          · refine X_goto i_X10_bestRise_72 (tgt := 83) rfl ?_
            refine Y_iinc_6 i_X10_bestRise_83 rfl rfl ?_
            refine X_goto i_X10_bestRise_86 (tgt := 49) rfl ?_
            exact X_eq (ih (j + 1) S1 K1 _ (by omega) hS1 (hR.tr hk1)) (by simp only [sS, sW]; rw [if_neg h69, if_neg h69]; rfl) rfl rfl
      exact loop (31) 0 S K _ (by omega) hS zKe.rf
    · refine X_bipush i_X10_bestRise_21 (by decide +kernel) ?_
      refine X_goto i_X10_bestRise_23 (tgt := 27) rfl ?_
      refine Y_istore_3 i_X10_bestRise_27 rfl rfl ?_
      refine Y_iload_3 i_X10_bestRise_28 ?_
      refine X_if_eq i_X10_bestRise_29 (tgt := 38) rfl ⟨by omega, by omega⟩ (fun h29 => by exfalso; omega) (fun h29 => ?_)
      refine Y_aload_0 i_X10_bestRise_32 ?_
      refine Y_iload_3 i_X10_bestRise_33 ?_
      refine Y_callV (k' := kX10_no) i_X10_bestRise_34 l_X10_75 m_X10_no (c_X10_no (by omega) (by omega)) rfl rfl rfl rfl rfl ?_
      refine X_iret i_X10_bestRise_37 rfl ?_
      exact zay1 (by unfold w_bestRise; (try rw [sFb2_e]); repeat (first | omega | split)) (by omega) hS
  · refine X_iconst i_X10_bestRise_8 ?_
    refine X_goto i_X10_bestRise_9 (tgt := 27) rfl ?_
    refine Y_istore_3 i_X10_bestRise_27 rfl rfl ?_
    refine Y_iload_3 i_X10_bestRise_28 ?_
    refine X_if_eq i_X10_bestRise_29 (tgt := 38) rfl ⟨by omega, by omega⟩ (fun h29 => by exfalso; omega) (fun h29 => ?_)
    refine Y_aload_0 i_X10_bestRise_32 ?_
    refine Y_iload_3 i_X10_bestRise_33 ?_
    refine Y_callV (k' := kX10_no) i_X10_bestRise_34 l_X10_75 m_X10_no (c_X10_no (by omega) (by omega)) rfl rfl rfl rfl rfl ?_
    refine X_iret i_X10_bestRise_37 rfl ?_
    exact zay1 (by unfold w_bestRise; (try rw [sFb2_e]); repeat (first | omega | split)) (by omega) hS
set_option maxRecDepth 100000 in
theorem c_X10_caller {M N : zMem} {S K : zAft} (hA : zOk 999 (N 0)) (hS : zSv S) {w : Int} (h_w : zR w) : zCt kX10_caller 6 [.ref 38, .int (zii w)] ((zs (zs (zs M 14 S) 13 K) 3 (N 0))) (zAy (w_caller N w) (.int (zii (w_caller N w))) (.int (zii (a_caller N w))) (zs (zs (zs M 14 S) 13 K) 3 (N 0)) (zs (zs (zs M 14 S) 13 K) 3 (N 0))) := by
  have h6 := hA.1
  unfold zH at h6
  have hG := sG_le hA.1
  have b_w := h_w.1
  have c_w := h_w.2
  refine zMet (by decide) (Nat.le_of_ble_eq_true rfl) ?_
  show zX kX10_caller 6 0 [some (.ref 38), some (.int (zii w)), none, none, none, none, none] [] _ _
  refine Y_iload_1 i_X10_caller_0 ?_
  refine X_iconst i_X10_caller_1 ?_
  refine X_iconst i_X10_caller_2 ?_
  refine Y_callS (k' := kX10_isIn) i_X10_caller_3 l_X10_86 m_X10_isIn (c_X10_isIn ⟨by omega, by omega⟩ (zR_lit rfl) (zR_lit rfl)) rfl rfl rfl rfl ?_
  refine Y_ifq_ne i_X10_caller_6 (tgt := 14) rfl  (fun h6 => ?_) (fun h6 => ?_)
  · refine Y_aload_0 i_X10_caller_14 ?_
    refine Y_getI i_X10_caller_15 f_X10_65 rfl (zg0 _ _ _ _ _) ?_
    refine X_bipush i_X10_caller_18 (by decide +kernel) ?_
    refine Y_icmp_ne i_X10_caller_20 (tgt := 28) rfl ⟨by omega, by omega⟩ ⟨by omega, by omega⟩ (fun h20 => ?_) (fun h20 => ?_)
    · refine X_iconst i_X10_caller_28 ?_
      refine Y_istore_2 i_X10_caller_29 rfl rfl ?_
      refine Y_iload_2 i_X10_caller_30 ?_
      refine X_if_eq i_X10_caller_31 (tgt := 40) rfl ⟨by omega, by omega⟩ (fun h31 => ?_) (fun h31 => by exfalso; omega)
      refine X_bipush i_X10_caller_40 (by decide +kernel) ?_
      refine Y_istore_3 i_X10_caller_42 rfl rfl ?_
      refine X_bipush i_X10_caller_43 (by decide +kernel) ?_
      refine Y_istore_4 i_X10_caller_45 rfl rfl ?_
      refine X_iconst i_X10_caller_47 ?_
      refine Y_istore_5 i_X10_caller_48 rfl rfl ?_
      have loop : ∀ (n : Nat) (j : Nat) (T R : zAft) (L : Option Value), j + n = 6 → zSv T → zKe 42 K R → zX kX10_caller 6 50 [some (.ref 38), some (.int (zii w)), some (.int (zii 0)), some (.int (zii (sW 100 (fun k : Nat => (sWh (sCome (N 0) (k : Int) 5 5) (N 0 6 0) : Int)) (-9) j))), some (.int (zii (sS 100 (fun k : Nat => (sWh (sCome (N 0) (k : Int) 5 5) (N 0 6 0) : Int)) j))), some (.int (zii j)), L] [] (zs (zs (zs M 14 T) 13 R) 3 (N 0)) (zAy (w_caller N w) (.int (zii (w_caller N w))) (.int (zii (a_caller N w))) (zs (zs (zs M 14 S) 13 K) 3 (N 0)) (zs (zs (zs M 14 S) 13 K) 3 (N 0))) := by
        intro n
        induction n with
        | zero =>
          intro j T R L hg hT hR
          obtain rfl : j = 6 := by omega
          have hq := sS_in (lim := 100) (f := (fun k : Nat => (sWh (sCome (N 0) (k : Int) 5 5) (N 0 6 0) : Int))) (fun n => by show (0 : Int) ≤ _; omega) (by omega) (6)
          refine Y_iload_5 i_X10_caller_50 ?_
          refine X_bipush i_X10_caller_52 (by decide +kernel) ?_
          refine X_icmp_ge i_X10_caller_54 (tgt := 88) rfl ⟨by omega, by omega⟩ ⟨by omega, by omega⟩ (fun h54 => ?_) (fun h54 => by exfalso; omega)
          refine Y_iload_1 i_X10_caller_88 ?_
          refine Y_if_ne i_X10_caller_89 (tgt := 96) rfl ⟨by omega, by omega⟩ (fun h89 => ?_) (fun h89 => ?_)
          · refine Y_iload_4 i_X10_caller_96 ?_
            refine Y_callS (k' := kX10_orNone) i_X10_caller_98 l_X10_225 m_X10_orNone (c_X10_orNone ⟨by omega, by omega⟩) rfl rfl rfl rfl ?_
            refine X_iret i_X10_caller_101 rfl ?_
            exact zay0 (by unfold w_caller; (try rw [sFb2_e]); repeat (first | omega | split)) (zvi (by unfold a_caller; rw [if_neg h89])) (zey_s hT hR)
          · refine Y_iload_3 i_X10_caller_92 ?_
            refine X_goto i_X10_caller_93 (tgt := 101) rfl ?_
            refine X_iret i_X10_caller_101 rfl ?_
            exact zay0 (by unfold w_caller; (try rw [sFb2_e]); repeat (first | omega | split)) (zvi (by unfold a_caller; rw [if_pos h89])) (zey_s hT hR)
        | succ n ih =>
          intro j T R L hg hT hR
          have hq := sS_in (lim := 100) (f := (fun k : Nat => (sWh (sCome (N 0) (k : Int) 5 5) (N 0 6 0) : Int))) (fun n => by show (0 : Int) ≤ _; omega) (by omega) j
          have hgl := sWh_le (sCome (N 0) (j : Int) 5 5) (N 0 6 0)
          refine Y_iload_5 i_X10_caller_50 ?_
          refine X_bipush i_X10_caller_52 (by decide +kernel) ?_
          refine X_icmp_ge i_X10_caller_54 (tgt := 88) rfl ⟨by omega, by omega⟩ ⟨by omega, by omega⟩ (fun h54 => by exfalso; omega) (fun h54 => ?_)
          refine Y_aload_0 i_X10_caller_57 ?_
          refine Y_iload_5 i_X10_caller_58 ?_
          refine Y_callVq (k' := kX10_goneAs) i_X10_caller_60 l_X10_280 m_X10_goneAs (c_X10_goneAs hA hT (by omega) ⟨by omega, by omega⟩) rfl rfl rfl rfl rfl ?_
          intro r9 M9 hr9
          obtain ⟨rfl, S1, K1, hS1, hk1, rfl⟩ := hr9
          refine X_tl ?_
          refine Y_istore_6 i_X10_caller_63 rfl rfl ?_
          refine Y_iload_6 i_X10_caller_65 ?_
          refine Y_iload_4 i_X10_caller_67 ?_
          refine X_icmp_lt i_X10_caller_69 (tgt := 75) rfl ⟨by omega, by omega⟩ ⟨by omega, by omega⟩ (fun h69 => ?_) (fun h69 => ?_)
          · refine Y_iload_5 i_X10_caller_75 ?_
            refine Y_istore_3 i_X10_caller_77 rfl rfl ?_
            refine Y_iload_6 i_X10_caller_78 ?_
            refine Y_istore_4 i_X10_caller_80 rfl rfl ?_
            refine Y_iinc_5 i_X10_caller_82 rfl rfl ?_
            refine X_goto i_X10_caller_85 (tgt := 50) rfl ?_
            exact X_eq (ih (j + 1) S1 K1 _ (by omega) hS1 (hR.tr hk1)) (by simp only [sS, sW]; rw [if_pos h69, if_pos h69]; rfl) rfl rfl
          · refine X_goto i_X10_caller_72 (tgt := 82) rfl ?_
            refine Y_iinc_5 i_X10_caller_82 rfl rfl ?_
            refine X_goto i_X10_caller_85 (tgt := 50) rfl ?_
            exact X_eq (ih (j + 1) S1 K1 _ (by omega) hS1 (hR.tr hk1)) (by simp only [sS, sW]; rw [if_neg h69, if_neg h69]; rfl) rfl rfl
      exact loop (6) 0 S K _ (by omega) hS zKe.rf
    · refine X_bipush i_X10_caller_23 (by decide +kernel) ?_
      refine X_goto i_X10_caller_25 (tgt := 29) rfl ?_
      refine Y_istore_2 i_X10_caller_29 rfl rfl ?_
      refine Y_iload_2 i_X10_caller_30 ?_
      refine X_if_eq i_X10_caller_31 (tgt := 40) rfl ⟨by omega, by omega⟩ (fun h31 => by exfalso; omega) (fun h31 => ?_)
      refine Y_aload_0 i_X10_caller_34 ?_
      refine Y_iload_2 i_X10_caller_35 ?_
      refine Y_callV (k' := kX10_no) i_X10_caller_36 l_X10_75 m_X10_no (c_X10_no (by omega) (by omega)) rfl rfl rfl rfl rfl ?_
      refine X_iret i_X10_caller_39 rfl ?_
      exact zay1 (by unfold w_caller; (try rw [sFb2_e]); repeat (first | omega | split)) (by omega) hS
  · refine X_bipush i_X10_caller_9 (by decide +kernel) ?_
    refine X_goto i_X10_caller_11 (tgt := 29) rfl ?_
    refine Y_istore_2 i_X10_caller_29 rfl rfl ?_
    refine Y_iload_2 i_X10_caller_30 ?_
    refine X_if_eq i_X10_caller_31 (tgt := 40) rfl ⟨by omega, by omega⟩ (fun h31 => by exfalso; omega) (fun h31 => ?_)
    refine Y_aload_0 i_X10_caller_34 ?_
    refine Y_iload_2 i_X10_caller_35 ?_
    refine Y_callV (k' := kX10_no) i_X10_caller_36 l_X10_75 m_X10_no (c_X10_no (by omega) (by omega)) rfl rfl rfl rfl rfl ?_
    refine X_iret i_X10_caller_39 rfl ?_
    exact zay1 (by unfold w_caller; (try rw [sFb2_e]); repeat (first | omega | split)) (by omega) hS
set_option maxRecDepth 100000 in
theorem c_X10_bestIn1 {M : zMem} {A S K : zAft} (hA : zOk 999 A) (hS : zSv S) {x : Nat} (hx : x < sG A) : zCt kX10_bestIn 5 [.ref 38, .ref 41, .int (zii (x : Nat)), .int (zii 9)] ((zs (zs (zs M 14 S) 13 K) 3 A)) (zQm 42 (.int (zii (sW 100 (fun v : Nat => (sWh (zwr A 1 x (v : Int)) x : Int)) (-9) 10))) M K A) := by
  have h6 := hA.1
  unfold zH at h6
  have hG := sG_le hA.1
  refine zMet (by decide) (Nat.le_of_ble_eq_true rfl) ?_
  show zX kX10_bestIn 5 0 [some (.ref 38), some (.ref 41), some (.int (zii (x : Nat))), some (.int (zii 9)), none, none, none, none, none] [] _ _
  refine Y_aload_1 i_X10_bestIn_0 ?_
  refine Y_iload_2 i_X10_bestIn_1 ?_
  refine Y_iald i_X10_bestIn_2 rfl ⟨by omega, by omega⟩ rfl (zg0 _ _ _ _ _) ?_
  refine Y_istore_4 i_X10_bestIn_3 rfl rfl ?_
  refine X_bipush i_X10_bestIn_5 (by decide +kernel) ?_
  refine Y_istore_5 i_X10_bestIn_7 rfl rfl ?_
  refine X_bipush i_X10_bestIn_9 (by decide +kernel) ?_
  refine Y_istore_6 i_X10_bestIn_11 rfl rfl ?_
  refine X_iconst i_X10_bestIn_13 ?_
  refine Y_istore_7 i_X10_bestIn_14 rfl rfl ?_
  have loop : ∀ (n : Nat) (j : Nat) (T R : zAft) (L : Option Value) (c : Int), j + n = 10 → zSv T → zKe 42 K R → zX kX10_bestIn 5 16 [some (.ref 38), some (.ref 41), some (.int (zii (x : Nat))), some (.int (zii 9)), some (.int (zii (A 1 x))), some (.int (zii (sW 100 (fun v : Nat => (sWh (zwr A 1 x (v : Int)) x : Int)) (-9) j))), some (.int (zii (sS 100 (fun v : Nat => (sWh (zwr A 1 x (v : Int)) x : Int)) j))), some (.int (zii j)), L] [] (zs (zs (zs M 14 T) 13 R) 3 (zwr A 1 x c)) (zQm 42 (.int (zii (sW 100 (fun v : Nat => (sWh (zwr A 1 x (v : Int)) x : Int)) (-9) 10))) M K A) := by
    intro n
    induction n with
    | zero =>
      intro j T R L c hg hT hR
      obtain rfl : j = 10 := by omega
      refine Y_iload_7 i_X10_bestIn_16 ?_
      refine Y_iload_3 i_X10_bestIn_18 ?_
      refine X_icmp_gt i_X10_bestIn_19 (tgt := 60) rfl ⟨by omega, by omega⟩ ⟨by omega, by omega⟩ (fun h19 => ?_) (fun h19 => by exfalso; omega)
      refine Y_aload_1 i_X10_bestIn_60 ?_
      refine Y_iload_2 i_X10_bestIn_61 ?_
      refine Y_iload_4 i_X10_bestIn_62 ?_
      refine Y_iast i_X10_bestIn_64 rfl ⟨by omega, by omega⟩ rfl (zp0 _ _ _ _ _ _) ?_
      rw [zwr_w, zwr_id]
      refine Y_iload_5 i_X10_bestIn_65 ?_
      refine X_iret i_X10_bestIn_67 rfl ?_
      exact ⟨rfl, T, R, hT, hR, rfl⟩
    | succ n ih =>
      intro j T R L c hg hT hR
      have hq := sS_in (lim := 100) (f := (fun v : Nat => (sWh (zwr A 1 x (v : Int)) x : Int))) (fun n => by show (0 : Int) ≤ _; omega) (by omega) j
      have hB : zOk 999 (zwr A 1 x (j : Int)) := by
        refine zOk_g hA (by omega) ?_
        have h9 := hA.2 x (by omega) (by omega)
        unfold zG at h9 ⊢
        simp [zwr]; omega
      have hGB := sG_w (A := A) (r := 1) (i := (x : Int)) (v := (j : Int)) (Or.inl (by decide))
      have hgb := sGB_one (A := zwr A 1 x (j : Int)) (x := x) (by omega) (by omega)
      have hgl := sWh_le (zwr A 1 x (j : Int)) x
      refine Y_iload_7 i_X10_bestIn_16 ?_
      refine Y_iload_3 i_X10_bestIn_18 ?_
      refine X_icmp_gt i_X10_bestIn_19 (tgt := 60) rfl ⟨by omega, by omega⟩ ⟨by omega, by omega⟩ (fun h19 => by exfalso; omega) (fun h19 => ?_)
      refine Y_aload_1 i_X10_bestIn_22 ?_
      refine Y_iload_2 i_X10_bestIn_23 ?_
      refine Y_iload_7 i_X10_bestIn_24 ?_
      refine Y_iast i_X10_bestIn_26 rfl ⟨by omega, by omega⟩ rfl (zp0 _ _ _ _ _ _) ?_
      rw [zwr_w]
      refine Y_aload_0 i_X10_bestIn_27 ?_
      refine X_iconst i_X10_bestIn_28 ?_
      refine Y_iload_2 i_X10_bestIn_29 ?_
      refine X_ishl i_X10_bestIn_30 ?_
      refine Y_callVq (k' := kX10_goneBy) i_X10_bestIn_31 l_X10_222 m_X10_goneBy (c_X10_goneBy hB hT) rfl rfl rfl rfl rfl ?_
      intro r9 M9 hr9
      obtain ⟨rfl, S1, K1, hS1, hk1, rfl⟩ := hr9
      refine X_tl ?_
      rw [hgb]
      refine Y_istore_8 i_X10_bestIn_34 rfl rfl ?_
      refine Y_iload_8 i_X10_bestIn_36 ?_
      refine Y_iload_6 i_X10_bestIn_38 ?_
      refine X_icmp_lt i_X10_bestIn_40 (tgt := 46) rfl ⟨by omega, by omega⟩ ⟨by omega, by omega⟩ (fun h40 => ?_) (fun h40 => ?_)
      · refine Y_iload_7 i_X10_bestIn_46 ?_
        refine Y_istore_5 i_X10_bestIn_48 rfl rfl ?_
        refine Y_iload_8 i_X10_bestIn_50 ?_
        refine Y_istore_6 i_X10_bestIn_52 rfl rfl ?_
        refine Y_iinc_7 i_X10_bestIn_54 rfl rfl ?_
        refine X_goto i_X10_bestIn_57 (tgt := 16) rfl ?_
        exact X_eq (ih (j + 1) S1 K1 _ _ (by omega) hS1 (hR.tr hk1.mo)) (by simp only [sS, sW]; rw [if_pos h40, if_pos h40]; rfl) rfl rfl
      · refine X_goto i_X10_bestIn_43 (tgt := 54) rfl ?_
        refine Y_iinc_7 i_X10_bestIn_54 rfl rfl ?_
        refine X_goto i_X10_bestIn_57 (tgt := 16) rfl ?_
        exact X_eq (ih (j + 1) S1 K1 _ _ (by omega) hS1 (hR.tr hk1.mo)) (by simp only [sS, sW]; rw [if_neg h40, if_neg h40]; rfl) rfl rfl
  refine X_mm (M' := (zs (zs (zs M 14 S) 13 K) 3 (zwr A 1 x (A 1 x)))) (by rw [zwr_id]) ?_
  exact loop 10 0 S K _ _ (by omega) hS zKe.rf
set_option maxRecDepth 100000 in
theorem c_X10_bestIn2 {M : zMem} {A S K : zAft} (hA : zOk 999 A) (hS : zSv S) {x : Nat} (hx : x < sG A) : zCt kX10_bestIn 5 [.ref 38, .ref 42, .int (zii (x : Nat)), .int (zii 30)] ((zs (zs (zs M 14 S) 13 K) 3 A)) (zQm 42 (.int (zii (sW 100 (fun v : Nat => (sWh (zwr A 2 x (v : Int)) x : Int)) (-9) 31))) M K A) := by
  have h6 := hA.1
  unfold zH at h6
  have hG := sG_le hA.1
  refine zMet (by decide) (Nat.le_of_ble_eq_true rfl) ?_
  show zX kX10_bestIn 5 0 [some (.ref 38), some (.ref 42), some (.int (zii (x : Nat))), some (.int (zii 30)), none, none, none, none, none] [] _ _
  refine Y_aload_1 i_X10_bestIn_0 ?_
  refine Y_iload_2 i_X10_bestIn_1 ?_
  refine Y_iald i_X10_bestIn_2 rfl ⟨by omega, by omega⟩ rfl (zg0 _ _ _ _ _) ?_
  refine Y_istore_4 i_X10_bestIn_3 rfl rfl ?_
  refine X_bipush i_X10_bestIn_5 (by decide +kernel) ?_
  refine Y_istore_5 i_X10_bestIn_7 rfl rfl ?_
  refine X_bipush i_X10_bestIn_9 (by decide +kernel) ?_
  refine Y_istore_6 i_X10_bestIn_11 rfl rfl ?_
  refine X_iconst i_X10_bestIn_13 ?_
  refine Y_istore_7 i_X10_bestIn_14 rfl rfl ?_
  have loop : ∀ (n : Nat) (j : Nat) (T R : zAft) (L : Option Value) (c : Int), j + n = 31 → zSv T → zKe 42 K R → zX kX10_bestIn 5 16 [some (.ref 38), some (.ref 42), some (.int (zii (x : Nat))), some (.int (zii 30)), some (.int (zii (A 2 x))), some (.int (zii (sW 100 (fun v : Nat => (sWh (zwr A 2 x (v : Int)) x : Int)) (-9) j))), some (.int (zii (sS 100 (fun v : Nat => (sWh (zwr A 2 x (v : Int)) x : Int)) j))), some (.int (zii j)), L] [] (zs (zs (zs M 14 T) 13 R) 3 (zwr A 2 x c)) (zQm 42 (.int (zii (sW 100 (fun v : Nat => (sWh (zwr A 2 x (v : Int)) x : Int)) (-9) 31))) M K A) := by
    intro n
    induction n with
    | zero =>
      intro j T R L c hg hT hR
      obtain rfl : j = 31 := by omega
      refine Y_iload_7 i_X10_bestIn_16 ?_
      refine Y_iload_3 i_X10_bestIn_18 ?_
      refine X_icmp_gt i_X10_bestIn_19 (tgt := 60) rfl ⟨by omega, by omega⟩ ⟨by omega, by omega⟩ (fun h19 => ?_) (fun h19 => by exfalso; omega)
      refine Y_aload_1 i_X10_bestIn_60 ?_
      refine Y_iload_2 i_X10_bestIn_61 ?_
      refine Y_iload_4 i_X10_bestIn_62 ?_
      refine Y_iast i_X10_bestIn_64 rfl ⟨by omega, by omega⟩ rfl (zp0 _ _ _ _ _ _) ?_
      rw [zwr_w, zwr_id]
      refine Y_iload_5 i_X10_bestIn_65 ?_
      refine X_iret i_X10_bestIn_67 rfl ?_
      exact ⟨rfl, T, R, hT, hR, rfl⟩
    | succ n ih =>
      intro j T R L c hg hT hR
      have hq := sS_in (lim := 100) (f := (fun v : Nat => (sWh (zwr A 2 x (v : Int)) x : Int))) (fun n => by show (0 : Int) ≤ _; omega) (by omega) j
      have hB : zOk 999 (zwr A 2 x (j : Int)) := by
        refine zOk_g hA (by omega) ?_
        have h9 := hA.2 x (by omega) (by omega)
        unfold zG at h9 ⊢
        simp [zwr]; omega
      have hGB := sG_w (A := A) (r := 2) (i := (x : Int)) (v := (j : Int)) (Or.inl (by decide))
      have hgb := sGB_one (A := zwr A 2 x (j : Int)) (x := x) (by omega) (by omega)
      have hgl := sWh_le (zwr A 2 x (j : Int)) x
      refine Y_iload_7 i_X10_bestIn_16 ?_
      refine Y_iload_3 i_X10_bestIn_18 ?_
      refine X_icmp_gt i_X10_bestIn_19 (tgt := 60) rfl ⟨by omega, by omega⟩ ⟨by omega, by omega⟩ (fun h19 => by exfalso; omega) (fun h19 => ?_)
      refine Y_aload_1 i_X10_bestIn_22 ?_
      refine Y_iload_2 i_X10_bestIn_23 ?_
      refine Y_iload_7 i_X10_bestIn_24 ?_
      refine Y_iast i_X10_bestIn_26 rfl ⟨by omega, by omega⟩ rfl (zp0 _ _ _ _ _ _) ?_
      rw [zwr_w]
      refine Y_aload_0 i_X10_bestIn_27 ?_
      refine X_iconst i_X10_bestIn_28 ?_
      refine Y_iload_2 i_X10_bestIn_29 ?_
      refine X_ishl i_X10_bestIn_30 ?_
      refine Y_callVq (k' := kX10_goneBy) i_X10_bestIn_31 l_X10_222 m_X10_goneBy (c_X10_goneBy hB hT) rfl rfl rfl rfl rfl ?_
      intro r9 M9 hr9
      obtain ⟨rfl, S1, K1, hS1, hk1, rfl⟩ := hr9
      refine X_tl ?_
      rw [hgb]
      refine Y_istore_8 i_X10_bestIn_34 rfl rfl ?_
      refine Y_iload_8 i_X10_bestIn_36 ?_
      refine Y_iload_6 i_X10_bestIn_38 ?_
      refine X_icmp_lt i_X10_bestIn_40 (tgt := 46) rfl ⟨by omega, by omega⟩ ⟨by omega, by omega⟩ (fun h40 => ?_) (fun h40 => ?_)
      · refine Y_iload_7 i_X10_bestIn_46 ?_
        refine Y_istore_5 i_X10_bestIn_48 rfl rfl ?_
        refine Y_iload_8 i_X10_bestIn_50 ?_
        refine Y_istore_6 i_X10_bestIn_52 rfl rfl ?_
        refine Y_iinc_7 i_X10_bestIn_54 rfl rfl ?_
        refine X_goto i_X10_bestIn_57 (tgt := 16) rfl ?_
        exact X_eq (ih (j + 1) S1 K1 _ _ (by omega) hS1 (hR.tr hk1.mo)) (by simp only [sS, sW]; rw [if_pos h40, if_pos h40]; rfl) rfl rfl
      · refine X_goto i_X10_bestIn_43 (tgt := 54) rfl ?_
        refine Y_iinc_7 i_X10_bestIn_54 rfl rfl ?_
        refine X_goto i_X10_bestIn_57 (tgt := 16) rfl ?_
        exact X_eq (ih (j + 1) S1 K1 _ _ (by omega) hS1 (hR.tr hk1.mo)) (by simp only [sS, sW]; rw [if_neg h40, if_neg h40]; rfl) rfl rfl
  refine X_mm (M' := (zs (zs (zs M 14 S) 13 K) 3 (zwr A 2 x (A 2 x)))) (by rw [zwr_id]) ?_
  exact loop 31 0 S K _ _ (by omega) hS zKe.rf
set_option maxRecDepth 100000 in
theorem c_X10_bestOf {M N : zMem} {S K : zAft} (hA : zOk 999 (N 0)) (hS : zSv S) {x : Int} (h_x : zR x) {w : Int} (h_w : zR w) : zCt kX10_bestOf 6 [.ref 38, .int (zii x), .int (zii w)] ((zs (zs (zs M 14 S) 13 K) 3 (N 0))) (zAy (w_bestOf N x w) (.int (zii (w_bestOf N x w))) (.int (zii (a_bestOf N x w))) (zs (zs (zs M 14 S) 13 K) 3 (N 0)) (zs (zs (zs M 14 S) 13 K) 3 (N 0))) := by
  have h6 := hA.1
  unfold zH at h6
  have hG := sG_le hA.1
  have b_x := h_x.1
  have c_x := h_x.2
  have b_w := h_w.1
  have c_w := h_w.2
  refine zMet (by decide) (Nat.le_of_ble_eq_true rfl) ?_
  show zX kX10_bestOf 6 0 [some (.ref 38), some (.int (zii x)), some (.int (zii w)), none] [] _ _
  refine Y_aload_0 i_X10_bestOf_0 ?_
  refine Y_iload_1 i_X10_bestOf_1 ?_
  refine Y_callV (k' := kX10_isGuest) i_X10_bestOf_2 l_X10_111 m_X10_isGuest (c_X10_isGuest (zs_self _ _ _) hA ⟨by omega, by omega⟩) rfl rfl rfl rfl rfl ?_
  refine Y_ifq_ne i_X10_bestOf_5 (tgt := 12) rfl  (fun h5 => ?_) (fun h5 => ?_)
  · refine Y_iload_2 i_X10_bestOf_12 ?_
    refine X_iconst i_X10_bestOf_13 ?_
    refine X_iconst i_X10_bestOf_14 ?_
    refine Y_callS (k' := kX10_isIn) i_X10_bestOf_15 l_X10_86 m_X10_isIn (c_X10_isIn ⟨by omega, by omega⟩ (zR_lit rfl) (zR_lit rfl)) rfl rfl rfl rfl ?_
    refine Y_ifq_ne i_X10_bestOf_18 (tgt := 26) rfl  (fun h18 => ?_) (fun h18 => ?_)
    · refine X_iconst i_X10_bestOf_26 ?_
      refine Y_istore_3 i_X10_bestOf_27 rfl rfl ?_
      refine Y_iload_3 i_X10_bestOf_28 ?_
      refine X_if_eq i_X10_bestOf_29 (tgt := 38) rfl ⟨by omega, by omega⟩ (fun h29 => ?_) (fun h29 => by exfalso; omega)
      obtain ⟨x9, rfl⟩ : ∃ t : Nat, x = t := ⟨x.toNat, by omega⟩
      refine Y_iload_2 i_X10_bestOf_38 ?_
      refine Y_if_ne i_X10_bestOf_39 (tgt := 56) rfl ⟨by omega, by omega⟩ (fun h39 => ?_) (fun h39 => ?_)
      · refine Y_aload_0 i_X10_bestOf_56 ?_
        refine Y_aload_0 i_X10_bestOf_57 ?_
        refine X_getR i_X10_bestOf_58 f_X10_19 rfl ?_
        refine Y_iload_1 i_X10_bestOf_61 ?_
        refine X_bipush i_X10_bestOf_62 (by decide +kernel) ?_
        refine Y_callVq (k' := kX10_bestIn) i_X10_bestOf_64 l_X10_286 m_X10_bestIn (c_X10_bestIn2 hA hS (by omega)) rfl rfl rfl rfl rfl ?_
        intro r9 M9 hr9
        obtain ⟨rfl, S1, K1, hS1, hk1, rfl⟩ := hr9
        refine X_tl ?_
        refine X_iret i_X10_bestOf_67 rfl ?_
        exact zay0 (by unfold w_bestOf; (try rw [sFb2_e]); repeat (first | omega | split)) (zvi (by unfold a_bestOf; rw [if_neg h39]; rfl)) (zey_s hS1 hk1)
      · refine Y_aload_0 i_X10_bestOf_42 ?_
        refine Y_aload_0 i_X10_bestOf_43 ?_
        refine X_getR i_X10_bestOf_44 f_X10_16 rfl ?_
        refine Y_iload_1 i_X10_bestOf_47 ?_
        refine X_bipush i_X10_bestOf_48 (by decide +kernel) ?_
        refine Y_callVq (k' := kX10_bestIn) i_X10_bestOf_50 l_X10_286 m_X10_bestIn (c_X10_bestIn1 hA hS (by omega)) rfl rfl rfl rfl rfl ?_
        intro r9 M9 hr9
        obtain ⟨rfl, S1, K1, hS1, hk1, rfl⟩ := hr9
        refine X_tl ?_
        refine X_goto i_X10_bestOf_53 (tgt := 67) rfl ?_
        refine X_iret i_X10_bestOf_67 rfl ?_
        exact zay0 (by unfold w_bestOf; (try rw [sFb2_e]); repeat (first | omega | split)) (zvi (by unfold a_bestOf; rw [if_pos h39]; rfl)) (zey_s hS1 hk1)
    · refine X_bipush i_X10_bestOf_21 (by decide +kernel) ?_
      refine X_goto i_X10_bestOf_23 (tgt := 27) rfl ?_
      refine Y_istore_3 i_X10_bestOf_27 rfl rfl ?_
      refine Y_iload_3 i_X10_bestOf_28 ?_
      refine X_if_eq i_X10_bestOf_29 (tgt := 38) rfl ⟨by omega, by omega⟩ (fun h29 => by exfalso; omega) (fun h29 => ?_)
      refine Y_aload_0 i_X10_bestOf_32 ?_
      refine Y_iload_3 i_X10_bestOf_33 ?_
      refine Y_callV (k' := kX10_no) i_X10_bestOf_34 l_X10_75 m_X10_no (c_X10_no (by omega) (by omega)) rfl rfl rfl rfl rfl ?_
      refine X_iret i_X10_bestOf_37 rfl ?_
      exact zay1 (by unfold w_bestOf; (try rw [sFb2_e]); repeat (first | omega | split)) (by omega) hS
  · refine X_iconst i_X10_bestOf_8 ?_
    refine X_goto i_X10_bestOf_9 (tgt := 27) rfl ?_
    refine Y_istore_3 i_X10_bestOf_27 rfl rfl ?_
    refine Y_iload_3 i_X10_bestOf_28 ?_
    refine X_if_eq i_X10_bestOf_29 (tgt := 38) rfl ⟨by omega, by omega⟩ (fun h29 => by exfalso; omega) (fun h29 => ?_)
    refine Y_aload_0 i_X10_bestOf_32 ?_
    refine Y_iload_3 i_X10_bestOf_33 ?_
    refine Y_callV (k' := kX10_no) i_X10_bestOf_34 l_X10_75 m_X10_no (c_X10_no (by omega) (by omega)) rfl rfl rfl rfl rfl ?_
    refine X_iret i_X10_bestOf_37 rfl ?_
    exact zay1 (by unfold w_bestOf; (try rw [sFb2_e]); repeat (first | omega | split)) (by omega) hS
theorem sMu_0 (A : zAft) : ∀ n : Nat, sMd A n = 0 → sMu A n = 0 := by
  intro n
  induction n with
  | zero => intro _; rfl
  | succ n ih =>
    simp only [sMd, sMu]
    split
    · exact ih
    · intro h; omega
set_option maxRecDepth 100000 in
theorem c_X10_mean {M N : zMem} {S K : zAft} (hA : zOk 999 (N 0)) (hS : zSv S) {w : Int} (h_w : zR w) : zCt kX10_mean 5 [.ref 38, .int (zii w)] ((zs (zs (zs M 14 S) 13 K) 3 (N 0))) (zAy (w_mean N w) (.long (zll (4000000000000000000 - (w_mean N w)))) (.long (zll (a_mean N w))) (zs (zs (zs M 14 S) 13 K) 3 (N 0)) (zs (zs (zs M 14 S) 13 K) 3 (N 0))) := by
  have h6 := hA.1
  unfold zH at h6
  have hG := sG_le hA.1
  have b_w := h_w.1
  have c_w := h_w.2
  refine zMet (by decide) (Nat.le_of_ble_eq_true rfl) ?_
  show zX kX10_mean 5 0 [some (.ref 38), some (.int (zii w)), none, none, none, none, none, none] [] _ _
  refine Y_iload_1 i_X10_mean_0 ?_
  refine X_iconst i_X10_mean_1 ?_
  refine X_iconst i_X10_mean_2 ?_
  refine Y_callS (k' := kX10_isIn) i_X10_mean_3 l_X10_86 m_X10_isIn (c_X10_isIn ⟨by omega, by omega⟩ (zR_lit rfl) (zR_lit rfl)) rfl rfl rfl rfl ?_
  refine Y_ifq_ne i_X10_mean_6 (tgt := 16) rfl  (fun h6 => ?_) (fun h6 => ?_)
  · refine X_lconst i_X10_mean_16 (x := 0) rfl ?_
    refine Y_lstore_2 i_X10_mean_17 rfl rfl ?_
    refine X_lconst i_X10_mean_18 (x := 0) rfl ?_
    refine Y_lstore_4 i_X10_mean_19 rfl rfl ?_
    refine X_iconst i_X10_mean_21 ?_
    refine Y_istore_6 i_X10_mean_22 rfl rfl ?_
    have loop : ∀ (n : Nat) (j : Nat) (T R : zAft) (L : Option Value), j + n = sG (N 0) → zSv T → zKe 42 K R → zX kX10_mean 5 24 [some (.ref 38), some (.int (zii w)), some (.long (zll (sMu (N 0) j : Nat))), none, some (.long (zll (sMd (N 0) j : Nat))), none, some (.int (zii j)), L] [] (zs (zs (zs M 14 T) 13 R) 3 (N 0)) (zAy (w_mean N w) (.long (zll (4000000000000000000 - (w_mean N w)))) (.long (zll (a_mean N w))) (zs (zs (zs M 14 S) 13 K) 3 (N 0)) (zs (zs (zs M 14 S) 13 K) 3 (N 0))) := by
      intro n
      induction n with
      | zero =>
        intro j T R L hg hT hR
        obtain rfl : j = sG (N 0) := by omega
        have hmu := sMu_in (N 0) (sG (N 0))
        have hz := zcmp_in (a := ((sMd (N 0) (sG (N 0)) : Nat) : Int)) (b := 0) ⟨by omega, by omega⟩ ⟨by omega, by omega⟩
        refine Y_iload_6 i_X10_mean_24 ?_
        refine Y_aload_0 i_X10_mean_26 ?_
        refine Y_getI i_X10_mean_27 f_X10_65 rfl (zg0 _ _ _ _ _) ?_
        refine X_icmp_ge i_X10_mean_30 (tgt := 83) rfl ⟨by omega, by omega⟩ ⟨by omega, by omega⟩ (fun h30 => ?_) (fun h30 => by exfalso; omega)
        refine Y_lload_4 i_X10_mean_83 ?_
        refine X_lconst i_X10_mean_85 (x := 0) rfl ?_
        refine X_lcmp i_X10_mean_86 ?_
        refine Y_if_ne i_X10_mean_87 (tgt := 95) rfl ⟨by omega, by omega⟩ (fun h87 => ?_) (fun h87 => ?_)
        · refine Y_iload_1 i_X10_mean_95 ?_
          refine Y_if_ne i_X10_mean_96 (tgt := 103) rfl ⟨by omega, by omega⟩ (fun h96 => ?_) (fun h96 => ?_)
          · 
            refine Y_lload_4 i_X10_mean_103 ?_
            refine Y_lload_2 i_X10_mean_105 ?_
            refine Y_lload_4 i_X10_mean_106 ?_
            refine Y_callS (k' := kX10_divisor) i_X10_mean_108 l_X10_276 m_X10_divisor (c_X10_divisor (by omega) (by omega)) rfl rfl rfl rfl ?_
            have hg0 : 0 < Nat.gcd (sMu (N 0) (sG (N 0))) (sMd (N 0) (sG (N 0))) := Nat.gcd_pos_of_pos_right _ (by omega)
            have hg1 : Nat.gcd (sMu (N 0) (sG (N 0))) (sMd (N 0) (sG (N 0))) ≤ sMd (N 0) (sG (N 0)) := Nat.gcd_le_right _ (by omega)
            refine X_ldiv i_X10_mean_111 ⟨by omega, by omega⟩ (by omega) ?_
            refine X_lret i_X10_mean_112 rfl ?_
            exact zay0 (by unfold w_mean; (try rw [sFb2_e]); repeat (first | omega | split)) (zvl (by unfold a_mean sPart; rw [if_pos (show 1 ≤ sMd (N 0) (sG (N 0)) by omega), if_neg (by omega), zldiv_pos ⟨by omega, by omega⟩ (by omega) ⟨by omega, by omega⟩ (by omega)])) (zey_s hT hR)
          · refine Y_lload_2 i_X10_mean_99 ?_
            refine X_goto i_X10_mean_100 (tgt := 105) rfl ?_
            refine Y_lload_2 i_X10_mean_105 ?_
            refine Y_lload_4 i_X10_mean_106 ?_
            refine Y_callS (k' := kX10_divisor) i_X10_mean_108 l_X10_276 m_X10_divisor (c_X10_divisor (by omega) (by omega)) rfl rfl rfl rfl ?_
            have hg0 : 0 < Nat.gcd (sMu (N 0) (sG (N 0))) (sMd (N 0) (sG (N 0))) := Nat.gcd_pos_of_pos_right _ (by omega)
            have hg1 : Nat.gcd (sMu (N 0) (sG (N 0))) (sMd (N 0) (sG (N 0))) ≤ sMd (N 0) (sG (N 0)) := Nat.gcd_le_right _ (by omega)
            refine X_ldiv i_X10_mean_111 ⟨by omega, by omega⟩ (by omega) ?_
            refine X_lret i_X10_mean_112 rfl ?_
            exact zay0 (by unfold w_mean; (try rw [sFb2_e]); repeat (first | omega | split)) (zvl (by unfold a_mean sPart; rw [if_pos (show 1 ≤ sMd (N 0) (sG (N 0)) by omega), if_pos (by omega), zldiv_pos ⟨by omega, by omega⟩ (by omega) ⟨by omega, by omega⟩ (by omega)])) (zey_s hT hR)
        · refine Y_iload_1 i_X10_mean_90 ?_
          refine X_i2l i_X10_mean_91 ⟨by omega, by omega⟩ ?_
          refine X_goto i_X10_mean_92 (tgt := 112) rfl ?_
          refine X_lret i_X10_mean_112 rfl ?_
          exact zay0 (by unfold w_mean; (try rw [sFb2_e]); repeat (first | omega | split)) (zvl (by unfold a_mean sPart; rw [if_neg (show ¬ 1 ≤ sMd (N 0) (sG (N 0)) by omega), sMu_0 _ _ (by omega)]; rcases (by omega : w = 0 ∨ w = 1) with e | e <;> subst e <;> rfl)) (zey_s hT hR)
      | succ n ih =>
        intro j T R L hg hT hR
        have hgb := sGB_one (A := N 0) (x := j) (by omega) (by omega)
        have hgl := sWh_le (N 0) j
        have hmu := sMu_in (N 0) j
        refine Y_iload_6 i_X10_mean_24 ?_
        refine Y_aload_0 i_X10_mean_26 ?_
        refine Y_getI i_X10_mean_27 f_X10_65 rfl (zg0 _ _ _ _ _) ?_
        refine X_icmp_ge i_X10_mean_30 (tgt := 83) rfl ⟨by omega, by omega⟩ ⟨by omega, by omega⟩ (fun h30 => by exfalso; omega) (fun h30 => ?_)
        refine Y_aload_0 i_X10_mean_33 ?_
        refine X_iconst i_X10_mean_34 ?_
        refine Y_iload_6 i_X10_mean_35 ?_
        refine X_ishl i_X10_mean_37 ?_
        refine Y_callVq (k' := kX10_goneBy) i_X10_mean_38 l_X10_222 m_X10_goneBy (c_X10_goneBy hA hT) rfl rfl rfl rfl rfl ?_
        intro r9 M9 hr9
        obtain ⟨rfl, S1, K1, hS1, hk1, rfl⟩ := hr9
        refine X_tl ?_
        rw [hgb]
        refine Y_istore_7 i_X10_mean_41 rfl rfl ?_
        refine Y_lload_2 i_X10_mean_43 ?_
        refine Y_iload_7 i_X10_mean_44 ?_
        refine X_bipush i_X10_mean_46 (by decide +kernel) ?_
        refine Y_icmp_ne i_X10_mean_48 (tgt := 55) rfl ⟨by omega, by omega⟩ ⟨by omega, by omega⟩ (fun h48 => ?_) (fun h48 => ?_)
        · refine Y_iload_7 i_X10_mean_55 ?_
          refine X_i2l i_X10_mean_57 ⟨by omega, by omega⟩ ?_
          refine X_ladd i_X10_mean_58 ?_
          refine Y_lstore_2 i_X10_mean_59 rfl rfl ?_
          refine Y_lload_4 i_X10_mean_60 ?_
          refine Y_iload_7 i_X10_mean_62 ?_
          refine X_bipush i_X10_mean_64 (by decide +kernel) ?_
          refine Y_icmp_ne i_X10_mean_66 (tgt := 73) rfl ⟨by omega, by omega⟩ ⟨by omega, by omega⟩ (fun h66 => ?_) (fun h66 => ?_)
          · refine X_lconst i_X10_mean_73 (x := 1) rfl ?_
            refine X_ladd i_X10_mean_74 ?_
            refine Y_lstore_4 i_X10_mean_75 rfl rfl ?_
            refine Y_iinc_6 i_X10_mean_77 rfl rfl ?_
            refine X_goto i_X10_mean_80 (tgt := 24) rfl ?_
            exact X_eq (ih (j + 1) S1 K1 _ (by omega) hS1 (hR.tr hk1.mo)) (by simp only [sMu, sMd]; rw [if_neg (by omega), if_neg (by omega)]; first | rfl | simp) rfl rfl
          · refine X_lconst i_X10_mean_69 (x := 0) rfl ?_
            refine X_goto i_X10_mean_70 (tgt := 74) rfl ?_
            refine X_ladd i_X10_mean_74 ?_
            refine Y_lstore_4 i_X10_mean_75 rfl rfl ?_
            refine Y_iinc_6 i_X10_mean_77 rfl rfl ?_
            refine X_goto i_X10_mean_80 (tgt := 24) rfl ?_
            exfalso; omega
        · refine X_lconst i_X10_mean_51 (x := 0) rfl ?_
          refine X_goto i_X10_mean_52 (tgt := 58) rfl ?_
          refine X_ladd i_X10_mean_58 ?_
          refine Y_lstore_2 i_X10_mean_59 rfl rfl ?_
          refine Y_lload_4 i_X10_mean_60 ?_
          refine Y_iload_7 i_X10_mean_62 ?_
          refine X_bipush i_X10_mean_64 (by decide +kernel) ?_
          refine Y_icmp_ne i_X10_mean_66 (tgt := 73) rfl ⟨by omega, by omega⟩ ⟨by omega, by omega⟩ (fun h66 => ?_) (fun h66 => ?_)
          · refine X_lconst i_X10_mean_73 (x := 1) rfl ?_
            refine X_ladd i_X10_mean_74 ?_
            refine Y_lstore_4 i_X10_mean_75 rfl rfl ?_
            refine Y_iinc_6 i_X10_mean_77 rfl rfl ?_
            refine X_goto i_X10_mean_80 (tgt := 24) rfl ?_
            exfalso; omega
          · refine X_lconst i_X10_mean_69 (x := 0) rfl ?_
            refine X_goto i_X10_mean_70 (tgt := 74) rfl ?_
            refine X_ladd i_X10_mean_74 ?_
            refine Y_lstore_4 i_X10_mean_75 rfl rfl ?_
            refine Y_iinc_6 i_X10_mean_77 rfl rfl ?_
            refine X_goto i_X10_mean_80 (tgt := 24) rfl ?_
            exact X_eq (ih (j + 1) S1 K1 _ (by omega) hS1 (hR.tr hk1.mo)) (by simp only [sMu, sMd]; rw [if_pos (by omega), if_pos (by omega)]; first | rfl | simp) rfl rfl
    exact loop (sG (N 0)) 0 S K _ (by omega) hS zKe.rf
  · refine Y_aload_0 i_X10_mean_9 ?_
    refine X_bipush i_X10_mean_10 (by decide +kernel) ?_
    refine Y_callV (k' := kX10_lowest) i_X10_mean_12 l_X10_272 m_X10_lowest (c_X10_lowest (by omega) (by omega)) rfl rfl rfl rfl rfl ?_
    refine X_lret i_X10_mean_15 rfl ?_
    exact zay3 (by unfold w_mean; (try rw [sFb2_e]); repeat (first | omega | split)) (by omega) hS
set_option maxRecDepth 100000 in
theorem c_X10_garden {M N : zMem} {S K : zAft} (hA : zOk 999 (N 0)) (hS : zSv S) {x : Int} (h_x : zR x) : zCt kX10_garden 5 [.ref 38, .int (zii x)] ((zs (zs (zs M 14 S) 13 K) 3 (N 0))) (zAy (w_garden N x) (.int (zii (1000000000 - (w_garden N x)))) (.int (zii (a_garden N x))) (zs (zs (zs M 14 S) 13 K) 3 (N 0)) (zs (zs (zs M 14 S) 13 K) 3 (N 0))) := by
  have h6 := hA.1
  unfold zH at h6
  have hG := sG_le hA.1
  have b_x := h_x.1
  have c_x := h_x.2
  refine zMet (by decide) (Nat.le_of_ble_eq_true rfl) ?_
  show zX kX10_garden 5 0 [some (.ref 38), some (.int (zii x)), none, none, none, none, none] [] _ _
  refine Y_aload_0 i_X10_garden_0 ?_
  refine Y_iload_1 i_X10_garden_1 ?_
  refine Y_callV (k' := kX10_isGuest) i_X10_garden_2 l_X10_111 m_X10_isGuest (c_X10_isGuest (zs_self _ _ _) hA ⟨by omega, by omega⟩) rfl rfl rfl rfl rfl ?_
  refine Y_ifq_ne i_X10_garden_5 (tgt := 12) rfl  (fun h5 => ?_) (fun h5 => ?_)
  · obtain ⟨x9, rfl⟩ : ∃ t : Nat, x = t := ⟨x.toNat, by omega⟩
    have hgy := hA.2 x9 (by omega) (by omega)
    unfold zG at hgy
    refine Y_aload_0 i_X10_garden_12 ?_
    refine X_getR i_X10_garden_13 f_X10_22 rfl ?_
    refine Y_iload_1 i_X10_garden_16 ?_
    refine Y_iald i_X10_garden_17 rfl ⟨by omega, by omega⟩ rfl (zg0 _ _ _ _ _) ?_
    refine X_iconst i_X10_garden_18 ?_
    refine Y_icmp_ne i_X10_garden_19 (tgt := 27) rfl ⟨by omega, by omega⟩ ⟨by omega, by omega⟩ (fun h19 => ?_) (fun h19 => ?_)
    · refine X_iconst i_X10_garden_27 ?_
      refine Y_istore_2 i_X10_garden_28 rfl rfl ?_
      refine Y_iload_2 i_X10_garden_29 ?_
      refine X_if_eq i_X10_garden_30 (tgt := 39) rfl ⟨by omega, by omega⟩ (fun h30 => ?_) (fun h30 => by exfalso; omega)
      have hgx := hA.2 x9 (by omega) (by omega)
      unfold zG at hgx
      have hgb := sGB_but (A := N 0) (x := x9) (by omega) (by omega) hG.2
      have hgl := sTg_le (N 0) x9
      have hB : zOk 999 (zwr (N 0) 3 x9 3) := by
        refine zOk_g hA (by omega) ?_
        have h9 := hA.2 x9 (by omega) (by omega)
        unfold zG at h9 ⊢
        simp [zwr]; omega
      have hGB := sG_w (A := N 0) (r := 3) (i := (x9 : Int)) (v := 3) (Or.inl (by decide))
      have hgb2 := sGB_but (A := zwr (N 0) 3 x9 3) (x := x9) (by omega) (by omega) (by rw [hGB]; exact hG.2)
      have hgl2 := sTg_le (zwr (N 0) 3 x9 3) x9
      rw [show zwr (N 0) 3 x9 3 6 0 = N 0 6 0 from zwr_r (by decide)] at hgb2
      refine Y_aload_0 i_X10_garden_39 ?_
      refine Y_callV (k' := kX10_everybody) i_X10_garden_40 l_X10_228 m_X10_everybody (c_X10_everybody (zs_self _ _ _) hA) rfl rfl rfl rfl rfl ?_
      refine X_iconst i_X10_garden_43 ?_
      refine Y_iload_1 i_X10_garden_44 ?_
      refine X_ishl i_X10_garden_45 ?_
      refine X_iconst i_X10_garden_46 ?_
      refine X_ixor i_X10_garden_47 ?_
      refine X_iand i_X10_garden_48 ?_
      refine Y_istore_3 i_X10_garden_49 rfl rfl ?_
      refine Y_aload_0 i_X10_garden_50 ?_
      refine Y_iload_3 i_X10_garden_51 ?_
      refine Y_callVq (k' := kX10_goneBy) i_X10_garden_52 l_X10_222 m_X10_goneBy (c_X10_goneBy hA hS) rfl rfl rfl rfl rfl ?_
      intro r9 M9 hr9
      obtain ⟨rfl, S1, K1, hS1, hk1, rfl⟩ := hr9
      refine X_tl ?_
      rw [hgb]
      refine Y_istore_4 i_X10_garden_55 rfl rfl ?_
      refine Y_aload_0 i_X10_garden_57 ?_
      refine X_getR i_X10_garden_58 f_X10_22 rfl ?_
      refine Y_iload_1 i_X10_garden_61 ?_
      refine Y_iald i_X10_garden_62 rfl ⟨by omega, by omega⟩ rfl (zg0 _ _ _ _ _) ?_
      refine Y_istore_5 i_X10_garden_63 rfl rfl ?_
      refine Y_aload_0 i_X10_garden_65 ?_
      refine X_getR i_X10_garden_66 f_X10_22 rfl ?_
      refine Y_iload_1 i_X10_garden_69 ?_
      refine X_iconst i_X10_garden_70 ?_
      refine Y_iast i_X10_garden_71 rfl ⟨by omega, by omega⟩ rfl (zp0 _ _ _ _ _ _) ?_
      refine Y_aload_0 i_X10_garden_72 ?_
      refine Y_iload_3 i_X10_garden_73 ?_
      refine Y_callVq (k' := kX10_goneBy) i_X10_garden_74 l_X10_222 m_X10_goneBy (c_X10_goneBy hB hS1) rfl rfl rfl rfl rfl ?_
      intro r9 M9 hr9
      obtain ⟨rfl, S2, K2, hS2, hk2, rfl⟩ := hr9
      refine X_tl ?_
      rw [hgb2]
      refine Y_istore_6 i_X10_garden_77 rfl rfl ?_
      refine Y_aload_0 i_X10_garden_79 ?_
      refine X_getR i_X10_garden_80 f_X10_22 rfl ?_
      refine Y_iload_1 i_X10_garden_83 ?_
      refine Y_iload_5 i_X10_garden_84 ?_
      refine Y_iast i_X10_garden_86 rfl ⟨by omega, by omega⟩ rfl (zp0 _ _ _ _ _ _) ?_
      rw [zwr_w, zwr_id]
      refine Y_iload_4 i_X10_garden_87 ?_
      refine Y_iload_6 i_X10_garden_89 ?_
      refine X_isub i_X10_garden_91 ?_
      refine X_iret i_X10_garden_92 rfl ?_
      exact zay0 (by unfold w_garden; (try rw [sFb2_e]); repeat (first | omega | split)) (zvi (by unfold a_garden; rfl)) (zey_s hS2 (hk1.tr hk2).mo)
    · refine X_bipush i_X10_garden_22 (by decide +kernel) ?_
      refine X_goto i_X10_garden_24 (tgt := 28) rfl ?_
      refine Y_istore_2 i_X10_garden_28 rfl rfl ?_
      refine Y_iload_2 i_X10_garden_29 ?_
      refine X_if_eq i_X10_garden_30 (tgt := 39) rfl ⟨by omega, by omega⟩ (fun h30 => by exfalso; omega) (fun h30 => ?_)
      refine Y_aload_0 i_X10_garden_33 ?_
      refine Y_iload_2 i_X10_garden_34 ?_
      refine Y_callV (k' := kX10_lower) i_X10_garden_35 l_X10_253 m_X10_lower (c_X10_lower (by omega) (by omega)) rfl rfl rfl rfl rfl ?_
      refine X_iret i_X10_garden_38 rfl ?_
      exact zay2 (by unfold w_garden; (try rw [sFb2_e]); repeat (first | omega | split)) (by omega) hS
  · refine X_iconst i_X10_garden_8 ?_
    refine X_goto i_X10_garden_9 (tgt := 28) rfl ?_
    refine Y_istore_2 i_X10_garden_28 rfl rfl ?_
    refine Y_iload_2 i_X10_garden_29 ?_
    refine X_if_eq i_X10_garden_30 (tgt := 39) rfl ⟨by omega, by omega⟩ (fun h30 => by exfalso; omega) (fun h30 => ?_)
    refine Y_aload_0 i_X10_garden_33 ?_
    refine Y_iload_2 i_X10_garden_34 ?_
    refine Y_callV (k' := kX10_lower) i_X10_garden_35 l_X10_253 m_X10_lower (c_X10_lower (by omega) (by omega)) rfl rfl rfl rfl rfl ?_
    refine X_iret i_X10_garden_38 rfl ?_
    exact zay2 (by unfold w_garden; (try rw [sFb2_e]); repeat (first | omega | split)) (by omega) hS
set_option maxRecDepth 100000 in
theorem c_X10_kept {M N : zMem} {S K : zAft} (hA : zOk 999 (N 0)) (hS : zSv S) {x : Int} (h_x : zR x) : zCt kX10_kept 5 [.ref 38, .int (zii x)] ((zs (zs (zs M 14 S) 13 K) 3 (N 0))) (zAy (w_kept N x) (.int (zii (1000000000 - (w_kept N x)))) (.int (zii (a_kept N x))) (zs (zs (zs M 14 S) 13 K) 3 (N 0)) (zs (zs (zs M 14 S) 13 K) 3 (N 0))) := by
  have h6 := hA.1
  unfold zH at h6
  have hG := sG_le hA.1
  have b_x := h_x.1
  have c_x := h_x.2
  refine zMet (by decide) (Nat.le_of_ble_eq_true rfl) ?_
  show zX kX10_kept 5 0 [some (.ref 38), some (.int (zii x)), none, none, none, none] [] _ _
  refine Y_aload_0 i_X10_kept_0 ?_
  refine Y_iload_1 i_X10_kept_1 ?_
  refine Y_callV (k' := kX10_isGuest) i_X10_kept_2 l_X10_111 m_X10_isGuest (c_X10_isGuest (zs_self _ _ _) hA ⟨by omega, by omega⟩) rfl rfl rfl rfl rfl ?_
  refine Y_ifq_ne i_X10_kept_5 (tgt := 12) rfl  (fun h5 => ?_) (fun h5 => ?_)
  · obtain ⟨x9, rfl⟩ : ∃ t : Nat, x = t := ⟨x.toNat, by omega⟩
    have hgy := hA.2 x9 (by omega) (by omega)
    unfold zG at hgy
    refine Y_aload_0 i_X10_kept_12 ?_
    refine X_getR i_X10_kept_13 f_X10_22 rfl ?_
    refine Y_iload_1 i_X10_kept_16 ?_
    refine Y_iald i_X10_kept_17 rfl ⟨by omega, by omega⟩ rfl (zg0 _ _ _ _ _) ?_
    refine X_iconst i_X10_kept_18 ?_
    refine X_icmp_le i_X10_kept_19 (tgt := 27) rfl ⟨by omega, by omega⟩ ⟨by omega, by omega⟩ (fun h19 => ?_) (fun h19 => ?_)
    · refine X_iconst i_X10_kept_27 ?_
      refine Y_istore_2 i_X10_kept_28 rfl rfl ?_
      refine Y_iload_2 i_X10_kept_29 ?_
      refine X_if_eq i_X10_kept_30 (tgt := 39) rfl ⟨by omega, by omega⟩ (fun h30 => ?_) (fun h30 => by exfalso; omega)
      have hgx := hA.2 x9 (by omega) (by omega)
      unfold zG at hgx
      have hgb := sGB_but (A := N 0) (x := x9) (by omega) (by omega) hG.2
      have hgl := sTg_le (N 0) x9
      have hB : zOk 999 (zwr (zwr (N 0) 0 x9 5) 3 x9 0) := by
        refine zOk_g (zOk_g hA (r := 0) (by omega) ?_) (r := 3) (by omega) ?_
        · have h9 := hA.2 x9 (by omega) (by omega)
          unfold zG at h9 ⊢
          simp [zwr]; omega
        · have h9 := hA.2 x9 (by omega) (by omega)
          unfold zG at h9 ⊢
          simp [zwr]; omega
      have hGB : sG (zwr (zwr (N 0) 0 x9 5) 3 x9 0) = sG (N 0) := (sG_w (Or.inl (by decide))).trans (sG_w (Or.inl (by decide)))
      have h60 : (zwr (zwr (N 0) 0 x9 5) 3 x9 0) 6 0 = N 0 6 0 := (zwr_r (by decide)).trans (zwr_r (by decide))
      have hgb2 := sGB_but (A := (zwr (zwr (N 0) 0 x9 5) 3 x9 0)) (x := x9) (by omega) (by omega) (by rw [hGB, h60]; exact hG.2)
      have hgl2 := sTg_le (zwr (zwr (N 0) 0 x9 5) 3 x9 0) x9
      rw [h60] at hgb2
      refine Y_aload_0 i_X10_kept_39 ?_
      refine Y_callV (k' := kX10_everybody) i_X10_kept_40 l_X10_228 m_X10_everybody (c_X10_everybody (zs_self _ _ _) hA) rfl rfl rfl rfl rfl ?_
      refine X_iconst i_X10_kept_43 ?_
      refine Y_iload_1 i_X10_kept_44 ?_
      refine X_ishl i_X10_kept_45 ?_
      refine X_iconst i_X10_kept_46 ?_
      refine X_ixor i_X10_kept_47 ?_
      refine X_iand i_X10_kept_48 ?_
      refine Y_istore_3 i_X10_kept_49 rfl rfl ?_
      refine Y_aload_0 i_X10_kept_50 ?_
      refine Y_iload_3 i_X10_kept_51 ?_
      refine Y_callVq (k' := kX10_goneBy) i_X10_kept_52 l_X10_222 m_X10_goneBy (c_X10_goneBy hA hS) rfl rfl rfl rfl rfl ?_
      intro r9 M9 hr9
      obtain ⟨rfl, S1, K1, hS1, hk1, rfl⟩ := hr9
      refine X_tl ?_
      rw [hgb]
      refine Y_istore_4 i_X10_kept_55 rfl rfl ?_
      refine Y_aload_0 i_X10_kept_57 ?_
      refine X_iconst i_X10_kept_58 ?_
      refine X_iconst i_X10_kept_59 ?_
      refine Y_callVq (k' := kX10_passesAll) i_X10_kept_60 l_X10_137 m_X10_passesAll (c_X10_keepAll (w := 1) (by omega) (by omega)) rfl rfl rfl rfl rfl ?_
      intro r9 M9 hr9
      obtain ⟨rfl, K2, hk2, rfl⟩ := hr9
      refine X_tl0 ?_
      have he2 : zKe 42 K1 K2 := ⟨fun i hi => hk2.2.1 i (by omega), hk2.2.2⟩
      refine Y_aload_0 i_X10_kept_63 ?_
      refine X_getR i_X10_kept_64 f_X10_13 rfl ?_
      refine Y_iload_1 i_X10_kept_67 ?_
      refine X_iconst i_X10_kept_68 ?_
      refine Y_iast i_X10_kept_69 rfl ⟨by omega, by omega⟩ rfl (zp0 _ _ _ _ _ _) ?_
      refine Y_aload_0 i_X10_kept_70 ?_
      refine X_getR i_X10_kept_71 f_X10_22 rfl ?_
      refine Y_iload_1 i_X10_kept_74 ?_
      refine X_iconst i_X10_kept_75 ?_
      refine Y_iast i_X10_kept_76 rfl ⟨by omega, by omega⟩ rfl (zp0 _ _ _ _ _ _) ?_
      refine Y_aload_0 i_X10_kept_77 ?_
      refine Y_iload_3 i_X10_kept_78 ?_
      refine Y_callVq (k' := kX10_goneBy) i_X10_kept_79 l_X10_222 m_X10_goneBy (c_X10_goneBy hB hS1) rfl rfl rfl rfl rfl ?_
      intro r9 M9 hr9
      obtain ⟨rfl, S2, K3, hS2, hk3, rfl⟩ := hr9
      refine X_tl ?_
      rw [hgb2]
      refine Y_istore_5 i_X10_kept_82 rfl rfl ?_
      refine Y_aload_0 i_X10_kept_84 ?_
      refine X_iconst i_X10_kept_85 ?_
      refine X_iconst i_X10_kept_86 ?_
      refine Y_callVq (k' := kX10_passesAll) i_X10_kept_87 l_X10_137 m_X10_passesAll (c_X10_getAll (w := 1) (by omega) (by omega) (hk3.kp hk2.1)) rfl rfl rfl rfl rfl ?_
      intro r9 M9 hr9
      obtain ⟨rfl, K4, hk4, rfl⟩ := hr9
      refine X_tl0 ?_
      refine Y_iload_4 i_X10_kept_90 ?_
      refine Y_iload_5 i_X10_kept_92 ?_
      refine X_isub i_X10_kept_94 ?_
      refine X_iret i_X10_kept_95 rfl ?_
      exact zay0 (by unfold w_kept; (try rw [sFb2_e]); repeat (first | omega | split)) (zvi (by unfold a_kept; rfl)) (zey_s hS2 (((hk1.mo.tr he2).tr hk3.mo).tr (zKe.of hk4)))
    · refine X_bipush i_X10_kept_22 (by decide +kernel) ?_
      refine X_goto i_X10_kept_24 (tgt := 28) rfl ?_
      refine Y_istore_2 i_X10_kept_28 rfl rfl ?_
      refine Y_iload_2 i_X10_kept_29 ?_
      refine X_if_eq i_X10_kept_30 (tgt := 39) rfl ⟨by omega, by omega⟩ (fun h30 => by exfalso; omega) (fun h30 => ?_)
      refine Y_aload_0 i_X10_kept_33 ?_
      refine Y_iload_2 i_X10_kept_34 ?_
      refine Y_callV (k' := kX10_lower) i_X10_kept_35 l_X10_253 m_X10_lower (c_X10_lower (by omega) (by omega)) rfl rfl rfl rfl rfl ?_
      refine X_iret i_X10_kept_38 rfl ?_
      exact zay2 (by unfold w_kept; (try rw [sFb2_e]); repeat (first | omega | split)) (by omega) hS
  · refine X_iconst i_X10_kept_8 ?_
    refine X_goto i_X10_kept_9 (tgt := 28) rfl ?_
    refine Y_istore_2 i_X10_kept_28 rfl rfl ?_
    refine Y_iload_2 i_X10_kept_29 ?_
    refine X_if_eq i_X10_kept_30 (tgt := 39) rfl ⟨by omega, by omega⟩ (fun h30 => by exfalso; omega) (fun h30 => ?_)
    refine Y_aload_0 i_X10_kept_33 ?_
    refine Y_iload_2 i_X10_kept_34 ?_
    refine Y_callV (k' := kX10_lower) i_X10_kept_35 l_X10_253 m_X10_lower (c_X10_lower (by omega) (by omega)) rfl rfl rfl rfl rfl ?_
    refine X_iret i_X10_kept_38 rfl ?_
    exact zay2 (by unfold w_kept; (try rw [sFb2_e]); repeat (first | omega | split)) (by omega) hS
