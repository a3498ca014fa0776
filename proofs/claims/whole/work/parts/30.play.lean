/-- a statement well formed: its letter and digits -/
def zWl (L : zAft) (s : Nat) : Prop := (sAt L s = 103 ∧ (0 ≤ sDi L ((s : Int) + 1) ∧ sDi L ((s : Int) + 1) ≤ 9) ∧ (0 ≤ sDi L ((s : Int) + 2) ∧ sDi L ((s : Int) + 2) ≤ 9) ∧ (0 ≤ sD2 L ((s : Int) + 3) ∧ sD2 L ((s : Int) + 3) ≤ 99)) ∨ (sAt L s = 109 ∧ 0 ≤ sD2 L ((s : Int) + 1) ∧ sD2 L ((s : Int) + 1) ≤ 99) ∨ ((sAt L s = 114 ∨ sAt L s = 111 ∨ sAt L s = 99 ∨ sAt L s = 117) ∧ 0 ≤ sDi L ((s : Int) + 1) ∧ sDi L ((s : Int) + 1) ≤ 9)
theorem zWl_of {L : zAft} {s : Nat} (h : sWf L s < 0) : zWl L s := by
  unfold zWl sD2 sDi
  rw [show (s : Int) + 3 + 1 = (s : Int) + 4 by omega, show (s : Int) + 1 + 1 = (s : Int) + 2 by omega]
  by_cases h1 : sAt L s = 103
  · rw [sWf_g h1] at h
    refine Or.inl ⟨h1, ?_⟩
    by_cases d1 : zDg L ((s : Int) + 1)
    · by_cases d2 : zDg L ((s : Int) + 2)
      · by_cases d3 : zDg L ((s : Int) + 3)
        · by_cases d4 : zDg L ((s : Int) + 4)
          · omega
          · rw [if_neg (not_not_intro d1), if_neg (not_not_intro d2), if_neg (not_not_intro d3), if_pos d4] at h; omega
        · rw [if_neg (not_not_intro d1), if_neg (not_not_intro d2), if_pos d3] at h; omega
      · rw [if_neg (not_not_intro d1), if_pos d2] at h; omega
    · rw [if_pos d1] at h; omega
  · by_cases h2 : sAt L s = 109
    · rw [sWf_m h2] at h
      refine Or.inr (Or.inl ⟨h2, ?_⟩)
      by_cases d1 : zDg L ((s : Int) + 1)
      · by_cases d2 : zDg L ((s : Int) + 2)
        · omega
        · rw [if_neg (not_not_intro d1), if_pos d2] at h; omega
      · rw [if_pos d1] at h; omega
    · by_cases h3 : sAt L s = 114 ∨ sAt L s = 111 ∨ sAt L s = 99 ∨ sAt L s = 117
      · rw [sWf_o h3] at h
        refine Or.inr (Or.inr ⟨h3, ?_⟩)
        by_cases d1 : zDg L ((s : Int) + 1)
        · omega
        · rw [if_pos d1] at h; omega
      · rw [sWf_u (by omega)] at h; omega
set_option maxRecDepth 100000 in
theorem c_X10_comesGuest {M : zMem} {A S K : zAft} (hA : zOk 999 A) (hS : zSv S) {x y z : Int} (hx0 : 0 ≤ x ∧ x ≤ 9) (hy0 : 0 ≤ y ∧ y ≤ 9) (hz0 : 0 ≤ z ∧ z ≤ 99) : zCt kX10_comesGuest 1 [.ref 38, .int (zii x), .int (zii y), .int (zii z)] ((zs (zs (zs M 14 S) 13 K) 3 A)) (fun r M9 => r = some (.int (zii (if sY_come A x y z = 0 then 1 else 0))) ∧ ∃ S9 A9 : zAft, zSv S9 ∧ (sY_come A x y z = 0 → A9 = sCome A x y z) ∧ M9 = (zs (zs (zs M 14 S9) 13 K) 3 A9)) := by
  have h6 := hA.1
  unfold zH at h6
  refine zMet (by decide) (Nat.le_of_ble_eq_true rfl) ?_
  show zX kX10_comesGuest 1 0 [some (.ref 38), some (.int (zii x)), some (.int (zii y)), some (.int (zii z))] [] _ _
  refine Y_iload_1 i_X10_comesGuest_0 ?_
  refine X_iconst i_X10_comesGuest_1 ?_
  refine X_icmp_gt i_X10_comesGuest_2 (tgt := 20) rfl ⟨by omega, by omega⟩ ⟨by omega, by omega⟩ (fun h2 => ?_) (fun h2 => ?_)
  · refine X_iconst i_X10_comesGuest_20 ?_
    refine X_zret i_X10_comesGuest_21 rfl (by omega) ?_
    have hok : ¬ sY_come A x y z = 0 := by unfold sY_come; repeat (first | omega | split)
    exact ⟨by rw [if_neg hok], S, _, hS, fun z => absurd z hok, rfl⟩
  · refine Y_iload_3 i_X10_comesGuest_5 ?_
    refine X_bipush i_X10_comesGuest_6 (by decide +kernel) ?_
    refine X_icmp_gt i_X10_comesGuest_8 (tgt := 20) rfl ⟨by omega, by omega⟩ ⟨by omega, by omega⟩ (fun h8 => ?_) (fun h8 => ?_)
    · refine X_iconst i_X10_comesGuest_20 ?_
      refine X_zret i_X10_comesGuest_21 rfl (by omega) ?_
      have hok : ¬ sY_come A x y z = 0 := by unfold sY_come; repeat (first | omega | split)
      exact ⟨by rw [if_neg hok], S, _, hS, fun z => absurd z hok, rfl⟩
    · refine Y_aload_0 i_X10_comesGuest_11 ?_
      refine Y_getI i_X10_comesGuest_12 f_X10_65 rfl (zg0 _ _ _ _ _) ?_
      refine X_bipush i_X10_comesGuest_15 (by decide +kernel) ?_
      refine Y_icmp_ne i_X10_comesGuest_17 (tgt := 22) rfl ⟨by omega, by omega⟩ ⟨by omega, by omega⟩ (fun h17 => ?_) (fun h17 => ?_)
      · refine Y_aload_0 i_X10_comesGuest_22 ?_
        refine Y_iload_1 i_X10_comesGuest_23 ?_
        refine Y_iload_2 i_X10_comesGuest_24 ?_
        refine Y_iload_3 i_X10_comesGuest_25 ?_
        refine Y_callVv (k' := kX10_adds) i_X10_comesGuest_26 l_X10_97 m_X10_adds (c_X10_adds (M := zs (zs M 14 S) 13 K) (by omega) (by omega)) rfl rfl rfl rfl rfl ?_
        refine X_iconst i_X10_comesGuest_29 ?_
        refine X_zret i_X10_comesGuest_30 rfl (by omega) ?_
        have hok : sY_come A x y z = 0 := by unfold sY_come; repeat (first | omega | split)
        exact ⟨by rw [if_pos hok], S, _, hS, fun _ => rfl, rfl⟩
      · refine X_iconst i_X10_comesGuest_20 ?_
        refine X_zret i_X10_comesGuest_21 rfl (by omega) ?_
        have hok : ¬ sY_come A x y z = 0 := by unfold sY_come; repeat (first | omega | split)
        exact ⟨by rw [if_neg hok], S, _, hS, fun z => absurd z hok, rfl⟩
set_option maxRecDepth 100000 in
theorem c_X10_comesCups {M : zMem} {A S K : zAft} (hA : zOk 999 A) (hS : zSv S) {x : Int} (hx0 : 0 ≤ x ∧ x ≤ 9) : zCt kX10_comesCups 1 [.ref 38, .int (zii x)] ((zs (zs (zs M 14 S) 13 K) 3 A)) (fun r M9 => r = some (.int (zii (if sY_cups A x = 0 then 1 else 0))) ∧ ∃ S9 A9 : zAft, zSv S9 ∧ (sY_cups A x = 0 → A9 = zwr A 6 1 x) ∧ M9 = (zs (zs (zs M 14 S9) 13 K) 3 A9)) := by
  have h6 := hA.1
  unfold zH at h6
  have hm9 := sMany_in hA.1 2
  refine zMet (by decide) (Nat.le_of_ble_eq_true rfl) ?_
  show zX kX10_comesCups 1 0 [some (.ref 38), some (.int (zii x))] [] _ _
  refine Y_iload_1 i_X10_comesCups_0 ?_
  refine X_iconst i_X10_comesCups_1 ?_
  refine X_iconst i_X10_comesCups_2 ?_
  refine Y_callS (k' := kX10_isIn) i_X10_comesCups_3 l_X10_86 m_X10_isIn (c_X10_isIn ⟨by omega, by omega⟩ (zR_lit rfl) (zR_lit rfl)) rfl rfl rfl rfl ?_
  refine Y_ifq_eq i_X10_comesCups_6 (tgt := 18) rfl  (fun h6 => ?_) (fun h6 => ?_)
  · refine X_iconst i_X10_comesCups_18 ?_
    refine X_zret i_X10_comesCups_19 rfl (by omega) ?_
    have hok : ¬ sY_cups A x = 0 := by unfold sY_cups; repeat (first | omega | split)
    exact ⟨by rw [if_neg hok], S, _, hS, fun z => absurd z hok, rfl⟩
  · refine Y_aload_0 i_X10_comesCups_9 ?_
    refine X_iconst i_X10_comesCups_10 ?_
    refine Y_callV (k' := kX10_manyIn) i_X10_comesCups_11 l_X10_101 m_X10_manyIn (c_X10_manyIn (zs_self _ _ _) hA (zR_lit rfl)) rfl rfl rfl rfl rfl ?_
    refine Y_iload_1 i_X10_comesCups_14 ?_
    refine X_icmp_le i_X10_comesCups_15 (tgt := 20) rfl ⟨by omega, by omega⟩ ⟨by omega, by omega⟩ (fun h15 => ?_) (fun h15 => ?_)
    · refine Y_aload_0 i_X10_comesCups_20 ?_
      refine Y_iload_1 i_X10_comesCups_21 ?_
      refine Y_putI i_X10_comesCups_22 f_X10_58 rfl t_7_8 (zp0 _ _ _ _ _ _) ?_
      refine X_iconst i_X10_comesCups_25 ?_
      refine X_zret i_X10_comesCups_26 rfl (by omega) ?_
      have hok : sY_cups A x = 0 := by unfold sY_cups; repeat (first | omega | split)
      exact ⟨by rw [if_pos hok], S, _, hS, fun _ => rfl, rfl⟩
    · refine X_iconst i_X10_comesCups_18 ?_
      refine X_zret i_X10_comesCups_19 rfl (by omega) ?_
      have hok : ¬ sY_cups A x = 0 := by unfold sY_cups; repeat (first | omega | split)
      exact ⟨by rw [if_neg hok], S, _, hS, fun z => absurd z hok, rfl⟩
set_option maxRecDepth 100000 in
theorem c_X10_comesMinutes {M : zMem} {A S K : zAft} (hA : zOk 999 A) (hS : zSv S) {x : Int} (hx0 : 0 ≤ x ∧ x ≤ 99) : zCt kX10_comesMinutes 5 [.ref 38, .int (zii x)] ((zs (zs (zs M 14 S) 13 K) 3 A)) (fun r M9 => r = some (.int (zii (if sY_pass A x = 0 then 1 else 0))) ∧ ∃ S9 A9 : zAft, zSv S9 ∧ (sY_pass A x = 0 → A9 = sRun A x.toNat) ∧ M9 = (zs (zs (zs M 14 S9) 13 K) 3 A9)) := by
  have h6 := hA.1
  unfold zH at h6
  refine zMet (by decide) (Nat.le_of_ble_eq_true rfl) ?_
  show zX kX10_comesMinutes 5 0 [some (.ref 38), some (.int (zii x))] [] _ _
  refine Y_iload_1 i_X10_comesMinutes_0 ?_
  refine X_iconst i_X10_comesMinutes_1 ?_
  refine X_bipush i_X10_comesMinutes_2 (by decide +kernel) ?_
  refine Y_callS (k' := kX10_isIn) i_X10_comesMinutes_4 l_X10_86 m_X10_isIn (c_X10_isIn ⟨by omega, by omega⟩ (zR_lit rfl) (zR_lit rfl)) rfl rfl rfl rfl ?_
  refine Y_ifq_eq i_X10_comesMinutes_7 (tgt := 22) rfl  (fun h7 => ?_) (fun h7 => ?_)
  · refine X_iconst i_X10_comesMinutes_22 ?_
    refine X_zret i_X10_comesMinutes_23 rfl (by omega) ?_
    have hok : ¬ sY_pass A x = 0 := by unfold sY_pass; repeat (first | omega | split)
    exact ⟨by rw [if_neg hok], S, _, hS, fun z => absurd z hok, rfl⟩
  · refine Y_aload_0 i_X10_comesMinutes_10 ?_
    refine Y_getI i_X10_comesMinutes_11 f_X10_104 rfl (zg0 _ _ _ _ _) ?_
    refine Y_iload_1 i_X10_comesMinutes_14 ?_
    refine X_iadd i_X10_comesMinutes_15 ?_
    refine X_sipush i_X10_comesMinutes_16 (by decide +kernel) ?_
    refine X_icmp_le i_X10_comesMinutes_19 (tgt := 24) rfl ⟨by omega, by omega⟩ ⟨by omega, by omega⟩ (fun h19 => ?_) (fun h19 => ?_)
    · obtain ⟨t, rfl⟩ : ∃ t : Nat, x = t := ⟨x.toNat, by omega⟩
      refine Y_aload_0 i_X10_comesMinutes_24 ?_
      refine Y_iload_1 i_X10_comesMinutes_25 ?_
      refine Y_callVv (k' := kX10_goes) i_X10_comesMinutes_26 l_X10_107 m_X10_goes (c_X10_goes hA hS (by omega) (by omega)) rfl rfl rfl rfl rfl ?_
      refine X_iconst i_X10_comesMinutes_29 ?_
      refine X_zret i_X10_comesMinutes_30 rfl (by omega) ?_
      have hok : sY_pass A (t : Int) = 0 := by unfold sY_pass; repeat (first | omega | split)
      exact ⟨by rw [if_pos hok], _, _, sRS_in _ hS t, fun _ => rfl, rfl⟩
    · refine X_iconst i_X10_comesMinutes_22 ?_
      refine X_zret i_X10_comesMinutes_23 rfl (by omega) ?_
      have hok : ¬ sY_pass A x = 0 := by unfold sY_pass; repeat (first | omega | split)
      exact ⟨by rw [if_neg hok], S, _, hS, fun z => absurd z hok, rfl⟩
set_option maxRecDepth 100000 in
theorem c_X10_comesTo {M : zMem} {A S K : zAft} (hA : zOk 999 A) (hS : zSv S) {c x : Int} (hc : c = 114 ∨ c = 111) (hx0 : 0 ≤ x ∧ x ≤ 9) : zCt kX10_comesTo 1 [.ref 38, .int (zii c), .int (zii x)] ((zs (zs (zs M 14 S) 13 K) 3 A)) (fun r M9 => r = some (.int (zii (if ((c = 114 ∧ sY_rise A x = 0) ∨ (c = 111 ∧ sY_slip A x = 0)) then 1 else 0))) ∧ ∃ S9 A9 : zAft, zSv S9 ∧ (((c = 114 ∧ sY_rise A x = 0) ∨ (c = 111 ∧ sY_slip A x = 0)) → A9 = (if c = 114 then sRise A x else zwr A 3 x 3)) ∧ M9 = (zs (zs (zs M 14 S9) 13 K) 3 A9)) := by
  have h6 := hA.1
  unfold zH at h6
  refine zMet (by decide) (Nat.le_of_ble_eq_true rfl) ?_
  show zX kX10_comesTo 1 0 [some (.ref 38), some (.int (zii c)), some (.int (zii x))] [] _ _
  refine Y_aload_0 i_X10_comesTo_0 ?_
  refine Y_iload_2 i_X10_comesTo_1 ?_
  refine Y_callV (k' := kX10_isGuest) i_X10_comesTo_2 l_X10_111 m_X10_isGuest (c_X10_isGuest (zs_self _ _ _) hA ⟨by omega, by omega⟩) rfl rfl rfl rfl rfl ?_
  refine Y_ifq_eq i_X10_comesTo_5 (tgt := 33) rfl  (fun h5 => ?_) (fun h5 => ?_)
  · refine X_iconst i_X10_comesTo_33 ?_
    refine X_zret i_X10_comesTo_34 rfl (by omega) ?_
    have hok : ¬ ((c = 114 ∧ sY_rise A x = 0) ∨ (c = 111 ∧ sY_slip A x = 0)) := by
      rintro (⟨e, z⟩ | ⟨e, z⟩)
      · unfold sY_rise at z; repeat (first | omega | split at z)
      · unfold sY_slip at z; repeat (first | omega | split at z)
    exact ⟨by rw [if_neg hok], S, _, hS, fun z => absurd z hok, rfl⟩
  · have hgx := hA.2 x (by omega) (by omega)
    unfold zG at hgx
    refine Y_aload_0 i_X10_comesTo_8 ?_
    refine X_getR i_X10_comesTo_9 f_X10_22 rfl ?_
    refine Y_iload_2 i_X10_comesTo_12 ?_
    refine Y_iald i_X10_comesTo_13 rfl ⟨by omega, by omega⟩ rfl (zg0 _ _ _ _ _) ?_
    refine X_if_eq i_X10_comesTo_14 (tgt := 35) rfl ⟨by omega, by omega⟩ (fun h14 => ?_) (fun h14 => ?_)
    · refine Y_iload_1 i_X10_comesTo_35 ?_
      refine X_bipush i_X10_comesTo_36 (by decide +kernel) ?_
      refine Y_icmp_ne i_X10_comesTo_38 (tgt := 49) rfl ⟨by omega, by omega⟩ ⟨by omega, by omega⟩ (fun h38 => ?_) (fun h38 => ?_)
      · refine Y_aload_0 i_X10_comesTo_49 ?_
        refine X_getR i_X10_comesTo_50 f_X10_22 rfl ?_
        refine Y_iload_2 i_X10_comesTo_53 ?_
        refine X_iconst i_X10_comesTo_54 ?_
        refine Y_iast i_X10_comesTo_55 rfl ⟨by omega, by omega⟩ rfl (zp0 _ _ _ _ _ _) ?_
        refine X_iconst i_X10_comesTo_56 ?_
        refine X_zret i_X10_comesTo_57 rfl (by omega) ?_
        have hok : ((c = 114 ∧ sY_rise A x = 0) ∨ (c = 111 ∧ sY_slip A x = 0)) := by
          rcases hc with e | e
          · exact Or.inl ⟨e, by unfold sY_rise; repeat (first | omega | split)⟩
          · exact Or.inr ⟨e, by unfold sY_slip; repeat (first | omega | split)⟩
        exact ⟨by rw [if_pos hok], S, _, hS, fun _ => by first | rw [if_pos (by omega)] | rw [if_neg (by omega)], rfl⟩
      · refine Y_aload_0 i_X10_comesTo_41 ?_
        refine Y_iload_2 i_X10_comesTo_42 ?_
        refine Y_callVv (k' := kX10_standsUp) i_X10_comesTo_43 l_X10_115 m_X10_standsUp (c_X10_standsUp (M := zs (zs M 14 S) 13 K) (by omega) (by omega)) rfl rfl rfl rfl rfl ?_
        refine X_goto i_X10_comesTo_46 (tgt := 56) rfl ?_
        refine X_iconst i_X10_comesTo_56 ?_
        refine X_zret i_X10_comesTo_57 rfl (by omega) ?_
        have hok : ((c = 114 ∧ sY_rise A x = 0) ∨ (c = 111 ∧ sY_slip A x = 0)) := by
          rcases hc with e | e
          · exact Or.inl ⟨e, by unfold sY_rise; repeat (first | omega | split)⟩
          · exact Or.inr ⟨e, by unfold sY_slip; repeat (first | omega | split)⟩
        exact ⟨by rw [if_pos hok], S, _, hS, fun _ => by first | rw [if_pos (by omega)] | rw [if_neg (by omega)], rfl⟩
    · refine Y_iload_1 i_X10_comesTo_17 ?_
      refine X_bipush i_X10_comesTo_18 (by decide +kernel) ?_
      refine Y_icmp_ne i_X10_comesTo_20 (tgt := 33) rfl ⟨by omega, by omega⟩ ⟨by omega, by omega⟩ (fun h20 => ?_) (fun h20 => ?_)
      · refine X_iconst i_X10_comesTo_33 ?_
        refine X_zret i_X10_comesTo_34 rfl (by omega) ?_
        have hok : ¬ ((c = 114 ∧ sY_rise A x = 0) ∨ (c = 111 ∧ sY_slip A x = 0)) := by
          rintro (⟨e, z⟩ | ⟨e, z⟩)
          · unfold sY_rise at z; repeat (first | omega | split at z)
          · unfold sY_slip at z; repeat (first | omega | split at z)
        exact ⟨by rw [if_neg hok], S, _, hS, fun z => absurd z hok, rfl⟩
      · refine Y_aload_0 i_X10_comesTo_23 ?_
        refine X_getR i_X10_comesTo_24 f_X10_22 rfl ?_
        refine Y_iload_2 i_X10_comesTo_27 ?_
        refine Y_iald i_X10_comesTo_28 rfl ⟨by omega, by omega⟩ rfl (zg0 _ _ _ _ _) ?_
        refine X_iconst i_X10_comesTo_29 ?_
        refine X_icmp_eq i_X10_comesTo_30 (tgt := 35) rfl ⟨by omega, by omega⟩ ⟨by omega, by omega⟩ (fun h30 => ?_) (fun h30 => ?_)
        · refine Y_iload_1 i_X10_comesTo_35 ?_
          refine X_bipush i_X10_comesTo_36 (by decide +kernel) ?_
          refine Y_icmp_ne i_X10_comesTo_38 (tgt := 49) rfl ⟨by omega, by omega⟩ ⟨by omega, by omega⟩ (fun h38 => ?_) (fun h38 => ?_)
          · refine Y_aload_0 i_X10_comesTo_49 ?_
            refine X_getR i_X10_comesTo_50 f_X10_22 rfl ?_
            refine Y_iload_2 i_X10_comesTo_53 ?_
            refine X_iconst i_X10_comesTo_54 ?_
            refine Y_iast i_X10_comesTo_55 rfl ⟨by omega, by omega⟩ rfl (zp0 _ _ _ _ _ _) ?_
            refine X_iconst i_X10_comesTo_56 ?_
            refine X_zret i_X10_comesTo_57 rfl (by omega) ?_
            have hok : ((c = 114 ∧ sY_rise A x = 0) ∨ (c = 111 ∧ sY_slip A x = 0)) := by
              rcases hc with e | e
              · exact Or.inl ⟨e, by unfold sY_rise; repeat (first | omega | split)⟩
              · exact Or.inr ⟨e, by unfold sY_slip; repeat (first | omega | split)⟩
            exact ⟨by rw [if_pos hok], S, _, hS, fun _ => by first | rw [if_pos (by omega)] | rw [if_neg (by omega)], rfl⟩
          · refine Y_aload_0 i_X10_comesTo_41 ?_
            refine Y_iload_2 i_X10_comesTo_42 ?_
            refine Y_callVv (k' := kX10_standsUp) i_X10_comesTo_43 l_X10_115 m_X10_standsUp (c_X10_standsUp (M := zs (zs M 14 S) 13 K) (by omega) (by omega)) rfl rfl rfl rfl rfl ?_
            refine X_goto i_X10_comesTo_46 (tgt := 56) rfl ?_
            refine X_iconst i_X10_comesTo_56 ?_
            refine X_zret i_X10_comesTo_57 rfl (by omega) ?_
            have hok : ((c = 114 ∧ sY_rise A x = 0) ∨ (c = 111 ∧ sY_slip A x = 0)) := by
              rcases hc with e | e
              · exact Or.inl ⟨e, by unfold sY_rise; repeat (first | omega | split)⟩
              · exact Or.inr ⟨e, by unfold sY_slip; repeat (first | omega | split)⟩
            exact ⟨by rw [if_pos hok], S, _, hS, fun _ => by first | rw [if_pos (by omega)] | rw [if_neg (by omega)], rfl⟩
        · refine X_iconst i_X10_comesTo_33 ?_
          refine X_zret i_X10_comesTo_34 rfl (by omega) ?_
          have hok : ¬ ((c = 114 ∧ sY_rise A x = 0) ∨ (c = 111 ∧ sY_slip A x = 0)) := by
            rintro (⟨e, z⟩ | ⟨e, z⟩)
            · unfold sY_rise at z; repeat (first | omega | split at z)
            · unfold sY_slip at z; repeat (first | omega | split at z)
          exact ⟨by rw [if_neg hok], S, _, hS, fun z => absurd z hok, rfl⟩
set_option maxRecDepth 100000 in
theorem c_X10_comes {M : zMem} {A S K : zAft} (hA : zOk 999 A) (hS : zSv S) {H L : zAft} {k s : Nat} (hk : k ≤ 47) (hT : zTl L H (k : Int) s) (hW : zWl L s) : zCt kX10_comes 6 [.ref 38, .int (zii k)] ((zs (zs (zs (zs M 12 H) 14 S) 13 K) 3 A)) (fun r M9 => r = some (.int (zii (if sTk L s A = true then 1 else 0))) ∧ ∃ S9 A9 : zAft, zSv S9 ∧ (sTk L s A = true → A9 = sTd L s A) ∧ M9 = (zs (zs (zs (zs M 12 H) 14 S9) 13 K) 3 A9)) := by
  have hW2 := hW
  unfold zWl at hW2
  obtain ⟨t0, t1, t2, t3⟩ := hT
  refine zMet (by decide) (Nat.le_of_ble_eq_true rfl) ?_
  show zX kX10_comes 6 0 [some (.ref 38), some (.int (zii k)), none] [] _ _
  refine Y_aload_0 i_X10_comes_0 ?_
  refine X_getR i_X10_comes_1 f_X10_40 rfl ?_
  refine X_iconst i_X10_comes_4 ?_
  refine Y_iload_1 i_X10_comes_5 ?_
  refine X_imul i_X10_comes_6 ?_
  refine Y_iald i_X10_comes_7 rfl ⟨by omega, by omega⟩ rfl (zg1 rfl (zg1 rfl (zg1 rfl (zg0 _ _ _ _ _)))) ?_
  rw [t2]
  refine Y_istore_2 i_X10_comes_8 rfl rfl ?_
  refine Y_aload_0 i_X10_comes_9 ?_
  refine X_getR i_X10_comes_10 f_X10_34 rfl ?_
  refine Y_iload_1 i_X10_comes_13 ?_
  refine Y_iald i_X10_comes_14 rfl ⟨by omega, by omega⟩ rfl (zg1 rfl (zg1 rfl (zg1 rfl (zg0 _ _ _ _ _)))) ?_
  rw [t0]
  rcases (by omega : sAt L s = 103 ∨ sAt L s = 109 ∨ (sAt L s = 114 ∨ sAt L s = 111) ∨ sAt L s = 99 ∨ sAt L s = 117) with hsw | hsw | hsw | hsw | hsw
  · refine X_look i_X10_comes_15 (by decide) ⟨by omega, by omega⟩ (off := 41) (by rw [hsw]; decide) (tgt := 56) rfl ?_
    rw [show (if sAt L s = 109 then sD2 L ((s : Int) + 1) else sDi L ((s : Int) + 1)) = sDi L ((s : Int) + 1) from if_neg (by omega)]
    refine Y_aload_0 i_X10_comes_56 ?_
    refine Y_iload_2 i_X10_comes_57 ?_
    refine Y_aload_0 i_X10_comes_58 ?_
    refine X_getR i_X10_comes_59 f_X10_40 rfl ?_
    refine X_iconst i_X10_comes_62 ?_
    refine Y_iload_1 i_X10_comes_63 ?_
    refine X_imul i_X10_comes_64 ?_
    refine X_iconst i_X10_comes_65 ?_
    refine X_iadd i_X10_comes_66 ?_
    refine Y_iald i_X10_comes_67 rfl ⟨by omega, by omega⟩ rfl (zg1 rfl (zg1 rfl (zg1 rfl (zg0 _ _ _ _ _)))) ?_
    rw [(t3 hsw).1]
    refine Y_aload_0 i_X10_comes_68 ?_
    refine X_getR i_X10_comes_69 f_X10_40 rfl ?_
    refine X_iconst i_X10_comes_72 ?_
    refine Y_iload_1 i_X10_comes_73 ?_
    refine X_imul i_X10_comes_74 ?_
    refine X_iconst i_X10_comes_75 ?_
    refine X_iadd i_X10_comes_76 ?_
    refine Y_iald i_X10_comes_77 rfl ⟨by omega, by omega⟩ rfl (zg1 rfl (zg1 rfl (zg1 rfl (zg0 _ _ _ _ _)))) ?_
    rw [(t3 hsw).2]
    refine Y_callVq (k' := kX10_comesGuest) i_X10_comes_78 l_X10_118 m_X10_comesGuest (c_X10_comesGuest (M := zs M 12 H) hA hS (by omega) (by omega) (by omega)) rfl rfl rfl rfl rfl ?_
    intro r9 M9 hr9
    obtain ⟨rfl, S9, A9, hS9, hA9, rfl⟩ := hr9
    refine X_tl ?_
    refine X_zret i_X10_comes_81 rfl (by omega) ?_
    have htk : sTk L s A = decide (sY_come A (sDi L ((s : Int) + 1)) (sDi L ((s : Int) + 2)) (sD2 L ((s : Int) + 3)) = 0) := by unfold sTk; rw [hsw]; rfl
    have htd : sTd L s A = sCome A (sDi L ((s : Int) + 1)) (sDi L ((s : Int) + 2)) (sD2 L ((s : Int) + 3)) := by unfold sTd; rw [hsw]; rfl
    exact ⟨by rw [htk]; simp only [decide_eq_true_eq], S9, A9, hS9, fun z => by rw [htd]; exact hA9 (by rw [htk] at z; simpa using z), rfl⟩
  · refine X_look i_X10_comes_15 (by decide) ⟨by omega, by omega⟩ (off := 89) (by rw [hsw]; decide) (tgt := 104) rfl ?_
    rw [show (if sAt L s = 109 then sD2 L ((s : Int) + 1) else sDi L ((s : Int) + 1)) = sD2 L ((s : Int) + 1) from if_pos hsw]
    refine Y_aload_0 i_X10_comes_104 ?_
    refine Y_iload_2 i_X10_comes_105 ?_
    refine Y_callVq (k' := kX10_comesMinutes) i_X10_comes_106 l_X10_127 m_X10_comesMinutes (c_X10_comesMinutes (M := zs M 12 H) hA hS (by omega)) rfl rfl rfl rfl rfl ?_
    intro r9 M9 hr9
    obtain ⟨rfl, S9, A9, hS9, hA9, rfl⟩ := hr9
    refine X_tl ?_
    refine X_zret i_X10_comes_109 rfl (by omega) ?_
    have htk : sTk L s A = decide (sY_pass A (sD2 L ((s : Int) + 1)) = 0) := by unfold sTk; rw [hsw]; rfl
    have htd : sTd L s A = sRun A (sD2 L ((s : Int) + 1)).toNat := by unfold sTd; rw [hsw]; rfl
    exact ⟨by rw [htk]; simp only [decide_eq_true_eq], S9, A9, hS9, fun z => by rw [htd]; exact hA9 (by rw [htk] at z; simpa using z), rfl⟩
  · refine X_look i_X10_comes_15 (by decide) ⟨by omega, by omega⟩ (off := 95) (by simp only [Op.lookupswitch.offset, List.find?]; first | rfl | (repeat (first | rfl | (rw [if_neg (by omega)])))) (tgt := 110) rfl ?_
    rw [show (if sAt L s = 109 then sD2 L ((s : Int) + 1) else sDi L ((s : Int) + 1)) = sDi L ((s : Int) + 1) from if_neg (by omega)]
    refine Y_aload_0 i_X10_comes_110 ?_
    refine Y_aload_0 i_X10_comes_111 ?_
    refine X_getR i_X10_comes_112 f_X10_34 rfl ?_
    refine Y_iload_1 i_X10_comes_115 ?_
    refine Y_iald i_X10_comes_116 rfl ⟨by omega, by omega⟩ rfl (zg1 rfl (zg1 rfl (zg1 rfl (zg0 _ _ _ _ _)))) ?_
    rw [t0]
    refine Y_iload_2 i_X10_comes_117 ?_
    refine Y_callVq (k' := kX10_comesTo) i_X10_comes_118 l_X10_130 m_X10_comesTo (c_X10_comesTo (M := zs M 12 H) hA hS (by omega) (by omega)) rfl rfl rfl rfl rfl ?_
    intro r9 M9 hr9
    obtain ⟨rfl, S9, A9, hS9, hA9, rfl⟩ := hr9
    refine X_tl ?_
    refine X_zret i_X10_comes_121 rfl (by omega) ?_
    rcases (by omega : sAt L s = 114 ∨ sAt L s = 111) with hsw | hsw
    · have htk : sTk L s A = decide (sY_rise A (sDi L ((s : Int) + 1)) = 0) := by unfold sTk; rw [hsw]; rfl
      have htd : sTd L s A = sRise A (sDi L ((s : Int) + 1)) := by unfold sTd; rw [hsw]; rfl
      have hiff : ((sAt L s = 114 ∧ sY_rise A (sDi L ((s : Int) + 1)) = 0) ∨ (sAt L s = 111 ∧ sY_slip A (sDi L ((s : Int) + 1)) = 0)) ↔ sTk L s A = true := by
        rw [htk, decide_eq_true_eq]; omega
      exact ⟨by simp only [hiff], S9, A9, hS9, fun z => by rw [htd, hA9 (hiff.mpr z), if_pos (by omega)], rfl⟩
    · have htk : sTk L s A = decide (sY_slip A (sDi L ((s : Int) + 1)) = 0) := by unfold sTk; rw [hsw]; rfl
      have htd : sTd L s A = zwr A 3 (sDi L ((s : Int) + 1)) 3 := by unfold sTd; rw [hsw]; rfl
      have hiff : ((sAt L s = 114 ∧ sY_rise A (sDi L ((s : Int) + 1)) = 0) ∨ (sAt L s = 111 ∧ sY_slip A (sDi L ((s : Int) + 1)) = 0)) ↔ sTk L s A = true := by
        rw [htk, decide_eq_true_eq]; omega
      exact ⟨by simp only [hiff], S9, A9, hS9, fun z => by rw [htd, hA9 (hiff.mpr z), if_neg (by omega)], rfl⟩
  · refine X_look i_X10_comes_15 (by decide) ⟨by omega, by omega⟩ (off := 67) (by rw [hsw]; decide) (tgt := 82) rfl ?_
    rw [show (if sAt L s = 109 then sD2 L ((s : Int) + 1) else sDi L ((s : Int) + 1)) = sDi L ((s : Int) + 1) from if_neg (by omega)]
    refine Y_aload_0 i_X10_comes_82 ?_
    refine Y_iload_2 i_X10_comes_83 ?_
    refine Y_callVq (k' := kX10_comesCups) i_X10_comes_84 l_X10_121 m_X10_comesCups (c_X10_comesCups (M := zs M 12 H) hA hS (by omega)) rfl rfl rfl rfl rfl ?_
    intro r9 M9 hr9
    obtain ⟨rfl, S9, A9, hS9, hA9, rfl⟩ := hr9
    refine X_tl ?_
    refine X_zret i_X10_comes_87 rfl (by omega) ?_
    have htk : sTk L s A = decide (sY_cups A (sDi L ((s : Int) + 1)) = 0) := by unfold sTk; rw [hsw]; rfl
    have htd : sTd L s A = zwr A 6 1 (sDi L ((s : Int) + 1)) := by unfold sTd; rw [hsw]; rfl
    exact ⟨by rw [htk]; simp only [decide_eq_true_eq], S9, A9, hS9, fun z => by rw [htd]; exact hA9 (by rw [htk] at z; simpa using z), rfl⟩
  · refine X_look i_X10_comes_15 (by decide) ⟨by omega, by omega⟩ (off := 73) (by rw [hsw]; decide) (tgt := 88) rfl ?_
    rw [show (if sAt L s = 109 then sD2 L ((s : Int) + 1) else sDi L ((s : Int) + 1)) = sDi L ((s : Int) + 1) from if_neg (by omega)]
    refine Y_aload_0 i_X10_comes_88 ?_
    refine Y_iload_2 i_X10_comes_89 ?_
    refine Y_putI i_X10_comes_90 f_X10_124 rfl t_7_9 (zp0 _ _ _ _ _ _) ?_
    refine Y_iload_2 i_X10_comes_93 ?_
    refine X_iconst i_X10_comes_94 ?_
    refine X_icmp_ge i_X10_comes_95 (tgt := 102) rfl ⟨by omega, by omega⟩ ⟨by omega, by omega⟩ (fun h95 => ?_) (fun h95 => ?_)
    · refine X_iconst i_X10_comes_102 ?_
      refine X_zret i_X10_comes_103 rfl (by omega) ?_
      have htk : sTk L s A = decide (0 ≤ sDi L ((s : Int) + 1) ∧ sDi L ((s : Int) + 1) < 4) := by unfold sTk; rw [hsw]; rfl
      have htd : sTd L s A = zwr A 6 2 (sDi L ((s : Int) + 1)) := by unfold sTd; rw [hsw]; rfl
      exact ⟨by rw [htk, if_neg (by rw [decide_eq_true_eq]; omega)], S, _, hS, fun _ => htd.symm, rfl⟩
    · refine X_iconst i_X10_comes_98 ?_
      refine X_goto i_X10_comes_99 (tgt := 103) rfl ?_
      refine X_zret i_X10_comes_103 rfl (by omega) ?_
      have htk : sTk L s A = decide (0 ≤ sDi L ((s : Int) + 1) ∧ sDi L ((s : Int) + 1) < 4) := by unfold sTk; rw [hsw]; rfl
      have htd : sTd L s A = zwr A 6 2 (sDi L ((s : Int) + 1)) := by unfold sTd; rw [hsw]; rfl
      exact ⟨by rw [htk, if_pos (by rw [decide_eq_true_eq]; omega)], S, _, hS, fun _ => htd.symm, rfl⟩
theorem sSt_3 (L : zAft) (hw : ∀ j : Nat, sWf L (sSt L j) < 0 → True) : ∀ k : Nat, (∀ j : Nat, j < k → sWf L (sSt L j) < 0) → 3 * k ≤ sSt L k := by
  intro k
  induction k with
  | zero => intro _; exact Nat.zero_le _
  | succ k ih =>
    intro h
    have h1 := ih (fun j hj => h j (by omega))
    have h2 := zWl_of (h k (by omega))
    have h3 : 3 ≤ sLn (sAt L (sSt L k)) := by
      unfold zWl at h2
      unfold sLn
      repeat (first | omega | split)
    show _ ≤ sSt L k + sLn (sAt L (sSt L k))
    omega
theorem sWp_s {L : zAft} {n s : Nat} (h : (s : Int) < L 1 0) (hw : sWf L s < 0) : sWp L (n + 1) s = sWp L n (s + sLn (sAt L s)) := by
  simp only [sWp]; rw [if_pos h, if_neg (by omega)]
theorem sWp_hit {L : zAft} {n s : Nat} (h : (s : Int) < L 1 0) (hw : 0 ≤ sWf L s) : sWp L (n + 1) s = sWf L s := by
  simp only [sWp]; rw [if_pos h, if_pos hw]
theorem sWp_end {L : zAft} {n s : Nat} (h : ¬ (s : Int) < L 1 0) : sWp L n s = -1 := by
  cases n with
  | zero => rfl
  | succ n => simp only [sWp]; rw [if_neg h]
theorem zTl_c {L H H2 : zAft} {j : Nat} {s k : Nat} (hj : j < k) (h : zTl L H (j : Int) s) (h0 : ∀ j : Int, 0 ≤ j → j < (k : Int) → H2 0 j = H 0 j ∧ H2 1 j = H 1 j) (h2 : ∀ i : Int, i < 3 * (k : Int) → H2 2 i = H 2 i) : zTl L H2 (j : Int) s := by
  unfold zTl at h ⊢
  rw [(h0 j (by omega) (by omega)).1, (h0 j (by omega) (by omega)).2, h2 _ (by omega), h2 _ (by omega), h2 _ (by omega)]
  exact h
theorem zs12 {X : zMem} {H S K A : zAft} : zs (zs (zs (zs X 12 H) 14 S) 13 K) 3 A = zs (zs (zs (zs X 14 S) 13 K) 3 A) 12 H := by
  rw [zs_comm (show (12 : Nat) ≠ 14 by decide), zs_comm (show (12 : Nat) ≠ 13 by decide), zs_comm (show (12 : Nat) ≠ 3 by decide)]
theorem zct12 {k : zMD} {d : Nat} {args : List Value} {X : zMem} {H S K A : zAft} {Q : Option Value → zMem → Prop} (h : zCt k d args (zs (zs (zs (zs X 14 S) 13 K) 3 A) 12 H) Q) : zCt k d args (zs (zs (zs (zs X 12 H) 14 S) 13 K) 3 A) Q := by rw [zs12]; exact h
theorem zTl_w1 {L H : zAft} {k v : Int} {s : Nat} (h : zTl L H k s) : zTl L (zwr H 3 1 v) k s := by
  unfold zTl at h ⊢
  rw [zwr_r (by decide), zwr_r (by decide), zwr_r (by decide), zwr_r (by decide), zwr_r (by decide)]
  exact h
set_option maxRecDepth 100000 in
theorem c_X10_house {M N : zMem} {S K H : zAft} (hA : zOk 999 (N 0)) (hS : zSv S) (hL : zLt (N 4)) : zCt kX10_house 7 [.ref 38] ((zs (zs (zs (zs (zs M 11 (N 4)) 12 H) 14 S) 13 K) 3 (N 0))) (fun r M9 => r = some (.int (zii (sHa (N 4) (N 0)).1)) ∧ ∃ S9 K9 H9 A9 : zAft, zSv S9 ∧ (0 < (sHa (N 4) (N 0)).1 → A9 = (sHa (N 4) (N 0)).2 ∧ K9 1 3 = 0 ∧ K9 1 0 = K 1 0 ∧ ∀ i : Int, i < 42 → K9 0 i = K 0 i) ∧ ((sHa (N 4) (N 0)).1 ≤ 0 → A9 = N 0 ∧ zKe 42 K K9) ∧ M9 = (zs (zs (zs (zs (zs M 11 (zwr (N 4) 1 0 0)) 12 H9) 14 S9) 13 K9) 3 A9)) := by
  have h6 := hA.1
  unfold zH at h6
  have hL1 := hL.1
  refine zMet (by decide) (Nat.le_of_ble_eq_true rfl) ?_
  show zX kX10_house 7 0 [some (.ref 38), none, none] [] _ _
  refine Y_aload_0 i_X10_house_0 ?_
  refine X_iconst i_X10_house_1 ?_
  refine Y_putI i_X10_house_2 f_X10_79 rfl t_7_17 (zp1 rfl (zp1 rfl (zp1 rfl (zp0 _ _ _ _ _ _)))) ?_
  refine Y_aload_0 i_X10_house_5 ?_
  refine X_iconst i_X10_house_6 ?_
  refine Y_putI i_X10_house_7 f_X10_90 rfl t_7_18 (zp1 rfl (zp1 rfl (zp1 rfl (zp0 _ _ _ _ _ _)))) ?_
  refine X_iconst i_X10_house_10 ?_
  refine Y_istore_1 i_X10_house_11 rfl rfl ?_
  have out : ∀ (H1 : zAft) (L2 : Option Value), H1 3 0 = sWrl (N 4) → 0 ≤ sWrl (N 4) → zX kX10_house 7 12 [some (.ref 38), some (.int (zii 0)), L2] [] (zs (zs (zs (zs (zs M 11 (N 4)) 12 H1) 14 S) 13 K) 3 (N 0)) (fun r M9 => r = some (.int (zii (sHa (N 4) (N 0)).1)) ∧ ∃ S9 K9 H9 A9 : zAft, zSv S9 ∧ (0 < (sHa (N 4) (N 0)).1 → A9 = (sHa (N 4) (N 0)).2 ∧ K9 1 3 = 0 ∧ K9 1 0 = K 1 0 ∧ ∀ i : Int, i < 42 → K9 0 i = K 0 i) ∧ ((sHa (N 4) (N 0)).1 ≤ 0 → A9 = N 0 ∧ zKe 42 K K9) ∧ M9 = (zs (zs (zs (zs (zs M 11 (zwr (N 4) 1 0 0)) 12 H9) 14 S9) 13 K9) 3 A9)) := by
    intro H1 L2 he h0
    refine Y_iload_1 i_X10_house_12 ?_
    refine X_if_eq i_X10_house_13 (tgt := 60) rfl ⟨by omega, by omega⟩ (fun h13 => ?_) (fun h13 => by exfalso; omega)
    refine Y_aload_0 i_X10_house_60 ?_
    refine X_iconst i_X10_house_61 ?_
    refine Y_putI i_X10_house_62 f_X10_72 rfl t_7_16 (zp1 rfl (zp1 rfl (zp1 rfl (zp1 rfl (zp0 _ _ _ _ _ _))))) ?_
    refine Y_iload_1 i_X10_house_65 ?_
    refine Y_if_ne i_X10_house_66 (tgt := 78) rfl ⟨by omega, by omega⟩ (fun h66 => by exfalso; omega) (fun h66 => ?_)
    refine X_sipush i_X10_house_69 (by decide +kernel) ?_
    refine Y_aload_0 i_X10_house_72 ?_
    refine Y_getI i_X10_house_73 f_X10_79 rfl (zg1 rfl (zg1 rfl (zg1 rfl (zg0 _ _ _ _ _)))) ?_
    rw [he]
    refine X_isub i_X10_house_76 ?_
    refine X_iret i_X10_house_77 rfl ?_
    have hsa : sHa (N 4) (N 0) = (-1000 - sWrl (N 4), N 0) := by unfold sHa; rw [if_pos h0]
    exact ⟨by rw [hsa], S, K, H1, N 0, hS, fun z => by rw [hsa] at z; simp only at z; omega, fun _ => ⟨rfl, zKe.rf⟩, rfl⟩
  have loop : ∀ (n : Nat) (k : Nat) (H1 : zAft) (L2 : Option Value), k + n = 40 → H1 3 0 = (sSt (N 4) k : Int) → H1 3 1 = (k : Int) → (∀ j : Nat, j < k → zTl (N 4) H1 (j : Int) (sSt (N 4) j) ∧ sWf (N 4) (sSt (N 4) j) < 0 ∧ (sSt (N 4) j : Int) < N 4 1 0) → (0 < N 4 1 0 → sWp (N 4) 96 0 = sWp (N 4) (96 - k) (sSt (N 4) k)) → zX kX10_house 7 12 [some (.ref 38), some (.int (zii 1)), L2] [] (zs (zs (zs (zs (zs M 11 (N 4)) 12 H1) 14 S) 13 K) 3 (N 0)) (fun r M9 => r = some (.int (zii (sHa (N 4) (N 0)).1)) ∧ ∃ S9 K9 H9 A9 : zAft, zSv S9 ∧ (0 < (sHa (N 4) (N 0)).1 → A9 = (sHa (N 4) (N 0)).2 ∧ K9 1 3 = 0 ∧ K9 1 0 = K 1 0 ∧ ∀ i : Int, i < 42 → K9 0 i = K 0 i) ∧ ((sHa (N 4) (N 0)).1 ≤ 0 → A9 = N 0 ∧ zKe 42 K K9) ∧ M9 = (zs (zs (zs (zs (zs M 11 (zwr (N 4) 1 0 0)) 12 H9) 14 S9) 13 K9) 3 A9)) := by
    intro n
    induction n with
    | zero =>
      intro k H1 L2 hg hs1 hst1 hent hch
      obtain rfl : k = 40 := by omega
      have h3k := sSt_3 (N 4) (fun _ _ => trivial) 40 (fun j hj => (hent j hj).2.1)
      have hk0 := (hent 39 (by omega)).2.2
      have hlast : (sSt (N 4) 39 : Int) < N 4 1 0 := hk0
      have h39 := sSt_3 (N 4) (fun _ _ => trivial) 39 (fun j hj => (hent j (by omega)).2.1)
      exfalso; omega
    | succ n ih =>
      intro k H1 L2 hg hs1 hst1 hent hch
      have h3k := sSt_3 (N 4) (fun _ _ => trivial) k (fun j hj => (hent j hj).2.1)
      have hs0 : k = 0 → sSt (N 4) k = 0 := fun h => by rw [h]; rfl
      have hpos : 1 ≤ k → 0 < N 4 1 0 := fun h => by
        have h9 := (hent 0 (by omega)).2.2
        have e9 : sSt (N 4) 0 = 0 := rfl
        omega
      have hsb : sSt (N 4) k ≤ 101 := by
        by_cases h : k = 0
        · have := hs0 h; omega
        · obtain ⟨m, rfl⟩ : ∃ m : Nat, k = m + 1 := ⟨k - 1, by omega⟩
          have h9 := (hent m (by omega)).2.2
          have h8 := sLn_in (sAt (N 4) (sSt (N 4) m))
          show sSt (N 4) m + sLn (sAt (N 4) (sSt (N 4) m)) ≤ 101
          omega
      have hout : ¬ (sSt (N 4) k : Int) < N 4 1 0 → sWf (N 4) (sSt (N 4) k) = (sSt (N 4) k : Int) := fun h => by
        have ha : sAt (N 4) (sSt (N 4) k : Int) = -1 := by unfold sAt; rw [if_neg (by omega)]
        exact sWf_u (by rw [ha]; omega)
      refine Y_iload_1 i_X10_house_12 ?_
      refine X_if_eq i_X10_house_13 (tgt := 60) rfl ⟨by omega, by omega⟩ (fun h13 => by exfalso; omega) (fun h13 => ?_)
      refine Y_aload_0 i_X10_house_16 ?_
      refine Y_getI i_X10_house_17 f_X10_79 rfl (zg1 rfl (zg1 rfl (zg1 rfl (zg0 _ _ _ _ _)))) ?_
      rw [hs1]
      refine Y_aload_0 i_X10_house_20 ?_
      refine Y_getI i_X10_house_21 f_X10_72 rfl (zg1 rfl (zg1 rfl (zg1 rfl (zg1 rfl (zg0 _ _ _ _ _))))) ?_
      refine X_icmp_lt i_X10_house_24 (tgt := 34) rfl ⟨by omega, by omega⟩ ⟨by omega, by omega⟩ (fun h24 => ?_) (fun h24 => ?_)
      · refine Y_aload_0 i_X10_house_34 ?_
        refine Y_callVq (k' := kX10_statement) i_X10_house_35 l_X10_133 m_X10_statement (zct12 (c_X10_statement (L := N 4) (s := sSt (N 4) k) (k := k) rfl hL hs1 hst1 (by omega) (by omega))) rfl rfl rfl rfl rfl ?_
        intro r9 M9 hr9
        obtain ⟨rfl, H2, ⟨e31, e30, etl, e01, e2⟩, rfl⟩ := hr9
        refine X_tl (X_mm zs12 ?_)
        refine Y_istore_1 i_X10_house_38 rfl rfl ?_
        refine Y_aload_0 i_X10_house_39 ?_
        refine X_dup i_X10_house_40 rfl ?_
        refine Y_getI i_X10_house_41 f_X10_90 rfl (zg1 rfl (zg1 rfl (zg1 rfl (zg0 _ _ _ _ _)))) ?_
        rw [e31]
        refine Y_iload_1 i_X10_house_44 ?_
        refine X_if_eq i_X10_house_45 (tgt := 52) rfl (zrB _) (fun h45 => ?_) (fun h45 => ?_)
        · refine X_iconst i_X10_house_52 ?_
          refine X_iadd i_X10_house_53 ?_
          refine Y_putI i_X10_house_54 f_X10_90 rfl t_7_18 (zp1 rfl (zp1 rfl (zp1 rfl (zp0 _ _ _ _ _ _)))) ?_
          refine X_goto i_X10_house_57 (tgt := 12) rfl ?_
          have hwf : ¬ sWf (N 4) (sSt (N 4) k) < 0 := zrB0 h45
          have hrl : sWrl (N 4) = sWf (N 4) (sSt (N 4) k) := by
            unfold sWrl
            by_cases h0 : N 4 1 0 = 0
            · rw [if_pos h0]
              obtain rfl : k = 0 := by omega
              have ha : sAt (N 4) ((0 : Nat) : Int) = -1 := by unfold sAt; rw [if_neg (by omega)]
              show 0 = sWf (N 4) 0
              rw [sWf_u (by rw [ha]; omega)]; rfl
            · rw [if_neg h0, hch (by omega)]
              obtain ⟨m, hm⟩ : ∃ m : Nat, 96 - k = m + 1 := ⟨95 - k, by omega⟩
              rw [hm, sWp_hit (by omega) (by omega)]
          exact X_eq (out _ L2 (by rw [zwr_i (by decide), e30, if_neg hwf, hrl]) (by omega)) (by rw [if_neg hwf]) rfl rfl
        · refine X_iconst i_X10_house_48 ?_
          refine X_goto i_X10_house_49 (tgt := 53) rfl ?_
          refine X_iadd i_X10_house_53 ?_
          refine Y_putI i_X10_house_54 f_X10_90 rfl t_7_18 (zp1 rfl (zp1 rfl (zp1 rfl (zp0 _ _ _ _ _ _)))) ?_
          refine X_goto i_X10_house_57 (tgt := 12) rfl ?_
          have hwf : sWf (N 4) (sSt (N 4) k) < 0 := zrB1 h45
          exact X_eq (ih (k + 1) _ L2 (by omega) (by rw [zwr_i (by decide), e30, if_pos hwf]; show _ = ((sSt (N 4) k + sLn (sAt (N 4) (sSt (N 4) k)) : Nat) : Int); omega) (by rw [zr0]; omega) (fun j hj => by
            by_cases e : j = k
            · subst e; exact ⟨zTl_w1 (etl hwf), hwf, by omega⟩
            · have h9 := hent j (by omega)
              exact ⟨zTl_w1 (zTl_c (show j < k by omega) h9.1 e01 e2), h9.2⟩) (fun h0 => by
            rw [hch h0]
            obtain ⟨m, hm⟩ : ∃ m : Nat, 96 - k = m + 1 := ⟨95 - k, by omega⟩
            rw [hm, sWp_s (by omega) hwf, show 96 - (k + 1) = m by omega]; rfl)) (by rw [if_pos hwf]) rfl rfl
      · refine Y_aload_0 i_X10_house_27 ?_
        refine Y_getI i_X10_house_28 f_X10_90 rfl (zg1 rfl (zg1 rfl (zg1 rfl (zg0 _ _ _ _ _)))) ?_
        rw [hst1]
        refine Y_if_ne i_X10_house_31 (tgt := 60) rfl ⟨by omega, by omega⟩ (fun h31 => ?_) (fun h31 => ?_)
        · refine Y_aload_0 i_X10_house_60 ?_
          refine X_iconst i_X10_house_61 ?_
          refine Y_putI i_X10_house_62 f_X10_72 rfl t_7_16 (zp1 rfl (zp1 rfl (zp1 rfl (zp1 rfl (zp0 _ _ _ _ _ _))))) ?_
          refine Y_iload_1 i_X10_house_65 ?_
          refine Y_if_ne i_X10_house_66 (tgt := 78) rfl ⟨by omega, by omega⟩ (fun h66 => ?_) (fun h66 => by exfalso; omega)
          refine Y_aload_0 i_X10_house_78 ?_
          refine X_iconst i_X10_house_79 ?_
          refine X_iconst i_X10_house_80 ?_
          
          refine Y_callVq (k' := kX10_passesAll) i_X10_house_81 l_X10_137 m_X10_passesAll (c_X10_keepAll (w := 1) (by omega) (by omega)) rfl rfl rfl rfl rfl ?_
          intro r9 M9 hr9
          obtain ⟨rfl, K1, hk1, rfl⟩ := hr9
          refine X_tl0 ?_
          refine X_iconst i_X10_house_84 ?_
          refine Y_istore_2 i_X10_house_85 rfl rfl ?_
          have he1 : zKe 42 K K1 := ⟨fun i hi => hk1.2.1 i (by omega), hk1.2.2⟩
          have hrl : ¬ 0 ≤ sWrl (N 4) := by unfold sWrl; rw [if_neg (by omega), hch (by omega), sWp_end (by omega)]; decide
          have loop2 : ∀ (n : Nat) (j : Nat) (u : Int) (T B : zAft), j + n = k → zSv T → zOk 999 B → sHf (N 4) 96 0 0 (N 0) = sHf (N 4) (96 - j) (sSt (N 4) j) j B → zX kX10_house 7 86 [some (.ref 38), some (.int (zii u)), some (.int (zii j))] [] (zs (zs (zs (zs (zs M 11 (zwr (N 4) 1 0 0)) 12 H1) 14 T) 13 K1) 3 B) (fun r M9 => r = some (.int (zii (sHa (N 4) (N 0)).1)) ∧ ∃ S9 K9 H9 A9 : zAft, zSv S9 ∧ (0 < (sHa (N 4) (N 0)).1 → A9 = (sHa (N 4) (N 0)).2 ∧ K9 1 3 = 0 ∧ K9 1 0 = K 1 0 ∧ ∀ i : Int, i < 42 → K9 0 i = K 0 i) ∧ ((sHa (N 4) (N 0)).1 ≤ 0 → A9 = N 0 ∧ zKe 42 K K9) ∧ M9 = (zs (zs (zs (zs (zs M 11 (zwr (N 4) 1 0 0)) 12 H9) 14 S9) 13 K9) 3 A9)) := by
            intro n
            induction n with
            | zero =>
              intro j u T B hg hT hB hh
              obtain rfl : k = j := by omega
              have hend : sHf (N 4) (96 - k) (sSt (N 4) k) k B = ((k : Int), B) := by
                obtain ⟨m, hm⟩ : ∃ m : Nat, 96 - k = m + 1 := ⟨95 - k, by omega⟩
                rw [hm]; simp only [sHf]; rw [if_neg (by omega)]
              have hsa : sHa (N 4) (N 0) = ((k : Int), B) := by unfold sHa; rw [if_neg (by omega), hh, hend]
              refine Y_iload_2 i_X10_house_86 ?_
              refine Y_aload_0 i_X10_house_87 ?_
              refine Y_getI i_X10_house_88 f_X10_90 rfl (zg1 rfl (zg1 rfl (zg1 rfl (zg0 _ _ _ _ _)))) ?_
              rw [hst1]
              refine X_icmp_ge i_X10_house_91 (tgt := 128) rfl ⟨by omega, by omega⟩ ⟨by omega, by omega⟩ (fun h91 => ?_) (fun h91 => by exfalso; omega)
              refine Y_aload_0 i_X10_house_128 ?_
              refine X_iconst i_X10_house_129 ?_
              refine Y_putI i_X10_house_130 f_X10_144 rfl t_7_23 (zp1 rfl (zp0 _ _ _ _ _ _)) ?_
              refine Y_aload_0 i_X10_house_133 ?_
              refine Y_getI i_X10_house_134 f_X10_90 rfl (zg1 rfl (zg1 rfl (zg1 rfl (zg0 _ _ _ _ _)))) ?_
              rw [hst1]
              refine X_iret i_X10_house_137 rfl ?_
              exact ⟨by rw [hsa], T, _, H1, B, hT, fun _ => ⟨by rw [hsa], zr0, by rw [zr2 (by decide) rfl]; exact hk1.2.2.1, fun i hi => by rw [zwr_r (by decide)]; exact hk1.2.1 i (by omega)⟩, fun z => by rw [hsa] at z; simp only at z; omega, rfl⟩
            | succ n ih =>
              intro j u T B hg hT hB hh
              have he := hent j (by omega)
              obtain ⟨m, hm⟩ : ∃ m : Nat, 96 - j = m + 1 := ⟨95 - j, by omega⟩
              have hst : sHf (N 4) (96 - j) (sSt (N 4) j) j B = if sTk (N 4) (sSt (N 4) j) B = true then sHf (N 4) (96 - (j + 1)) (sSt (N 4) (j + 1)) (j + 1) (sTd (N 4) (sSt (N 4) j) B) else (-2000 - (sSt (N 4) j : Int), B) := by
                rw [hm, show 96 - (j + 1) = m by omega]; simp only [sHf]; rw [if_pos he.2.2]; rfl
              refine Y_iload_2 i_X10_house_86 ?_
              refine Y_aload_0 i_X10_house_87 ?_
              refine Y_getI i_X10_house_88 f_X10_90 rfl (zg1 rfl (zg1 rfl (zg1 rfl (zg0 _ _ _ _ _)))) ?_
              rw [hst1]
              refine X_icmp_ge i_X10_house_91 (tgt := 128) rfl ⟨by omega, by omega⟩ ⟨by omega, by omega⟩ (fun h91 => by exfalso; omega) (fun h91 => ?_)
              refine Y_aload_0 i_X10_house_94 ?_
              refine Y_iload_2 i_X10_house_95 ?_
              refine Y_callVq (k' := kX10_comes) i_X10_house_96 l_X10_141 m_X10_comes (c_X10_comes (M := zs M 11 (zwr (N 4) 1 0 0)) hB hT (by omega) he.1 (zWl_of he.2.1)) rfl rfl rfl rfl rfl ?_
              intro r9 M9 hr9
              obtain ⟨rfl, S9, A9, hS9, hA9, rfl⟩ := hr9
              refine X_tl ?_
              refine Y_ifq_eq i_X10_house_99 (tgt := 105) rfl  (fun h99 => ?_) (fun h99 => ?_)
              · refine Y_aload_0 i_X10_house_105 ?_
                refine X_iconst i_X10_house_106 ?_
                refine X_iconst i_X10_house_107 ?_
                refine Y_callVq (k' := kX10_passesAll) i_X10_house_108 l_X10_137 m_X10_passesAll (c_X10_getAll (w := 1) (by omega) (by omega) hk1.1) rfl rfl rfl rfl rfl ?_
                intro r9 M9 hr9
                obtain ⟨rfl, K2, hk2, rfl⟩ := hr9
                refine X_tl0 ?_
                refine X_sipush i_X10_house_111 (by decide +kernel) ?_
                refine Y_aload_0 i_X10_house_114 ?_
                refine X_getR i_X10_house_115 f_X10_37 rfl ?_
                refine Y_iload_2 i_X10_house_118 ?_
                refine Y_iald i_X10_house_119 rfl ⟨by omega, by omega⟩ rfl (zg1 rfl (zg1 rfl (zg1 rfl (zg0 _ _ _ _ _)))) ?_
                rw [he.1.2.1]
                refine X_isub i_X10_house_120 ?_
                refine X_iret i_X10_house_121 rfl ?_
                have hsa : sHa (N 4) (N 0) = (-2000 - (sSt (N 4) j : Int), B) := by unfold sHa; rw [if_neg (by omega), hh, hst, if_neg h99]
                exact ⟨by rw [hsa], S9, K2, H1, N 0, hS9, fun z => by rw [hsa] at z; simp only at z; omega, fun _ => ⟨rfl, he1.tr (zKe.of hk2)⟩, rfl⟩
              · refine X_goto i_X10_house_102 (tgt := 122) rfl ?_
                refine Y_iinc_2 i_X10_house_122 rfl rfl ?_
                refine X_goto i_X10_house_125 (tgt := 86) rfl ?_
                exact X_eq (ih (j + 1) u _ _ (by omega) hS9 (by rw [hA9 h99]; exact sTd_ok hB h99) (by rw [hh, hst, if_pos h99, hA9 h99])) (by simp) rfl rfl
          exact loop2 k 0 1 S (N 0) (by omega) hS hA rfl
        · refine Y_aload_0 i_X10_house_34 ?_
          refine Y_callVq (k' := kX10_statement) i_X10_house_35 l_X10_133 m_X10_statement (zct12 (c_X10_statement (L := N 4) (s := sSt (N 4) k) (k := k) rfl hL hs1 hst1 (by omega) (by omega))) rfl rfl rfl rfl rfl ?_
          intro r9 M9 hr9
          obtain ⟨rfl, H2, ⟨e31, e30, etl, e01, e2⟩, rfl⟩ := hr9
          refine X_tl (X_mm zs12 ?_)
          refine Y_istore_1 i_X10_house_38 rfl rfl ?_
          refine Y_aload_0 i_X10_house_39 ?_
          refine X_dup i_X10_house_40 rfl ?_
          refine Y_getI i_X10_house_41 f_X10_90 rfl (zg1 rfl (zg1 rfl (zg1 rfl (zg0 _ _ _ _ _)))) ?_
          rw [e31]
          refine Y_iload_1 i_X10_house_44 ?_
          refine X_if_eq i_X10_house_45 (tgt := 52) rfl (zrB _) (fun h45 => ?_) (fun h45 => ?_)
          · refine X_iconst i_X10_house_52 ?_
            refine X_iadd i_X10_house_53 ?_
            refine Y_putI i_X10_house_54 f_X10_90 rfl t_7_18 (zp1 rfl (zp1 rfl (zp1 rfl (zp0 _ _ _ _ _ _)))) ?_
            refine X_goto i_X10_house_57 (tgt := 12) rfl ?_
            have hwf : ¬ sWf (N 4) (sSt (N 4) k) < 0 := zrB0 h45
            have hrl : sWrl (N 4) = sWf (N 4) (sSt (N 4) k) := by
              unfold sWrl
              by_cases h0 : N 4 1 0 = 0
              · rw [if_pos h0]
                obtain rfl : k = 0 := by omega
                have ha : sAt (N 4) ((0 : Nat) : Int) = -1 := by unfold sAt; rw [if_neg (by omega)]
                show 0 = sWf (N 4) 0
                rw [sWf_u (by rw [ha]; omega)]; rfl
              · rw [if_neg h0, hch (by omega)]
                obtain ⟨m, hm⟩ : ∃ m : Nat, 96 - k = m + 1 := ⟨95 - k, by omega⟩
                rw [hm, sWp_hit (by omega) (by omega)]
            exact X_eq (out _ L2 (by rw [zwr_i (by decide), e30, if_neg hwf, hrl]) (by omega)) (by rw [if_neg hwf]) rfl rfl
          · refine X_iconst i_X10_house_48 ?_
            refine X_goto i_X10_house_49 (tgt := 53) rfl ?_
            refine X_iadd i_X10_house_53 ?_
            refine Y_putI i_X10_house_54 f_X10_90 rfl t_7_18 (zp1 rfl (zp1 rfl (zp1 rfl (zp0 _ _ _ _ _ _)))) ?_
            refine X_goto i_X10_house_57 (tgt := 12) rfl ?_
            have hwf : sWf (N 4) (sSt (N 4) k) < 0 := zrB1 h45
            exact X_eq (ih (k + 1) _ L2 (by omega) (by rw [zwr_i (by decide), e30, if_pos hwf]; show _ = ((sSt (N 4) k + sLn (sAt (N 4) (sSt (N 4) k)) : Nat) : Int); omega) (by rw [zr0]; omega) (fun j hj => by
              by_cases e : j = k
              · subst e; exact ⟨zTl_w1 (etl hwf), hwf, by omega⟩
              · have h9 := hent j (by omega)
                exact ⟨zTl_w1 (zTl_c (show j < k by omega) h9.1 e01 e2), h9.2⟩) (fun h0 => by
              rw [hch h0]
              obtain ⟨m, hm⟩ : ∃ m : Nat, 96 - k = m + 1 := ⟨95 - k, by omega⟩
              rw [hm, sWp_s (by omega) hwf, show 96 - (k + 1) = m by omega]; rfl)) (by rw [if_pos hwf]) rfl rfl
  exact loop 40 0 _ _ (by omega) (by rw [zwr_i (by decide), zr0]; rfl) (by rw [zr0]; rfl) (fun j hj => absurd hj (by omega)) (fun _ => rfl)
