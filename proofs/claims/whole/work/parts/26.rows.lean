set_option maxRecDepth 100000 in
theorem c_X10_judge {M N : zMem} {S K : zAft} (hA : zOk 999 (N 0)) (hS : zSv S) {x : Int} (h_x : zR x) (hT : zTo (N 5)) : zCt kX10_judge 4 [.ref 38, .int (zii x)] ((zs (zs (zs (zs M 15 (N 5)) 14 S) 13 K) 3 (N 0))) (zAy (w_judge N x) (.int (zii (w_judge N x))) (.int (zii (a_judge N x))) (zs (zs (zs (zs M 15 (zwr (N 5) 1 0 0)) 14 S) 13 K) 3 (N 0)) (zs (zs (zs (zs M 15 (N 5)) 14 S) 13 K) 3 (N 0))) := by
  have h6 := hA.1
  unfold zH at h6
  have hG := sG_le hA.1
  have b_x := h_x.1
  have c_x := h_x.2
  have hTn : (sTn (N 5) : Int) = N 5 1 0 ∧ sTn (N 5) ≤ 12 := by have := hT.1; unfold sTn; omega
  have hT1 := hT.1
  refine zMet (by decide) (Nat.le_of_ble_eq_true rfl) ?_
  show zX kX10_judge 4 0 [some (.ref 38), some (.int (zii x)), none, none, none] [] _ _
  refine Y_aload_0 i_X10_judge_0 ?_
  refine Y_iload_1 i_X10_judge_1 ?_
  refine Y_callV (k' := kX10_isGuest) i_X10_judge_2 l_X10_111 m_X10_isGuest (c_X10_isGuest (zs_self _ _ _) hA ⟨by omega, by omega⟩) rfl rfl rfl rfl rfl ?_
  refine Y_ifq_ne i_X10_judge_5 (tgt := 14) rfl  (fun h5 => ?_) (fun h5 => ?_)
  · refine Y_aload_0 i_X10_judge_14 ?_
    refine Y_getI i_X10_judge_15 f_X10_256 rfl (zg1 rfl (zg1 rfl (zg1 rfl (zg0 _ _ _ _ _)))) ?_
    refine Y_istore_2 i_X10_judge_18 rfl rfl ?_
    refine Y_aload_0 i_X10_judge_19 ?_
    refine X_iconst i_X10_judge_20 ?_
    refine Y_putI i_X10_judge_21 f_X10_256 rfl t_7_27 (zp1 rfl (zp1 rfl (zp1 rfl (zp0 _ _ _ _ _ _)))) ?_
    refine Y_aload_0 i_X10_judge_24 ?_
    refine Y_callVq (k' := kX10_thinks) i_X10_judge_25 l_X10_207 m_X10_thinks c_X10_thinks rfl rfl rfl rfl rfl ?_
    intro r9 M9 hr9
    obtain ⟨rfl, K1, hk1, rfl⟩ := hr9
    refine X_tl0 ?_
    refine X_bipush i_X10_judge_28 (by decide +kernel) ?_
    refine Y_istore_3 i_X10_judge_30 rfl rfl ?_
    refine X_iconst i_X10_judge_31 ?_
    refine Y_istore_4 i_X10_judge_32 rfl rfl ?_
    have out : ∀ (f j : Nat) (B T : zAft), f < 100 → j ≤ 100 → zSv T → sWt (N 0) (N 5) x = f → zX kX10_judge 4 34 [some (.ref 38), some (.int (zii x)), some (.int (zii (N 5 1 0))), some (.int (zii (f : Nat))), some (.int (zii (j : Nat)))] [] (zs (zs (zs (zs M 15 (zwr (N 5) 1 0 0)) 14 T) 13 K1) 3 B) (zAy (w_judge N x) (.int (zii (w_judge N x))) (.int (zii (a_judge N x))) (zs (zs (zs (zs M 15 (zwr (N 5) 1 0 0)) 14 S) 13 K) 3 (N 0)) (zs (zs (zs (zs M 15 (N 5)) 14 S) 13 K) 3 (N 0))) := by
      intro f j B T hf hj hT2 he
      refine Y_iload_4 i_X10_judge_34 ?_
      refine Y_iload_2 i_X10_judge_36 ?_
      refine X_icmp_ge i_X10_judge_37 (tgt := 79) rfl ⟨by omega, by omega⟩ ⟨by omega, by omega⟩ (fun h37 => ?_) (fun h37 => ?_)
      · refine Y_aload_0 i_X10_judge_79 ?_
        refine Y_callVq (k' := kX10_forgets) i_X10_judge_80 l_X10_210 m_X10_forgets (c_X10_forgets hk1.1) rfl rfl rfl rfl rfl ?_
        intro r9 M9 hr9
        obtain ⟨rfl, K2, hk2, rfl⟩ := hr9
        refine X_tl0 ?_
        refine Y_iload_3 i_X10_judge_83 ?_
        refine X_iret i_X10_judge_84 rfl ?_
        exact zay0 (by unfold w_judge; (try rw [sFb2_e]); repeat (first | omega | split)) (zvi (by rw [← he]; rfl)) (zey_s hT2 (hk1.2.tr hk2).mo)
      · refine Y_iload_3 i_X10_judge_40 ?_
        refine X_if_ge i_X10_judge_41 (tgt := 79) rfl ⟨by omega, by omega⟩ (fun h41 => ?_) (fun h41 => by exfalso; omega)
        refine Y_aload_0 i_X10_judge_79 ?_
        refine Y_callVq (k' := kX10_forgets) i_X10_judge_80 l_X10_210 m_X10_forgets (c_X10_forgets hk1.1) rfl rfl rfl rfl rfl ?_
        intro r9 M9 hr9
        obtain ⟨rfl, K2, hk2, rfl⟩ := hr9
        refine X_tl0 ?_
        refine Y_iload_3 i_X10_judge_83 ?_
        refine X_iret i_X10_judge_84 rfl ?_
        exact zay0 (by unfold w_judge; (try rw [sFb2_e]); repeat (first | omega | split)) (zvi (by rw [← he]; rfl)) (zey_s hT2 (hk1.2.tr hk2).mo)
    have loop : ∀ (n : Nat) (j : Nat), j + n = sTn (N 5) → (∀ q : Nat, q < j → sPt (N 0) (N 5) x q = false) → zX kX10_judge 4 34 [some (.ref 38), some (.int (zii x)), some (.int (zii (N 5 1 0))), some (.int (zii (-9))), some (.int (zii (j : Nat)))] [] (zs (zs (zs (zs M 15 (zwr (N 5) 1 0 0)) 14 (sRS (N 0) S j)) 13 K1) 3 (sRun (N 0) j)) (zAy (w_judge N x) (.int (zii (w_judge N x))) (.int (zii (a_judge N x))) (zs (zs (zs (zs M 15 (zwr (N 5) 1 0 0)) 14 S) 13 K) 3 (N 0)) (zs (zs (zs (zs M 15 (N 5)) 14 S) 13 K) 3 (N 0))) := by
      intro n
      induction n with
      | zero =>
        intro j  hg hno
        obtain rfl : j = sTn (N 5) := by omega
        refine Y_iload_4 i_X10_judge_34 ?_
        refine Y_iload_2 i_X10_judge_36 ?_
        refine X_icmp_ge i_X10_judge_37 (tgt := 79) rfl ⟨by omega, by omega⟩ ⟨by omega, by omega⟩ (fun h37 => ?_) (fun h37 => by exfalso; omega)
        refine Y_aload_0 i_X10_judge_79 ?_
        refine Y_callVq (k' := kX10_forgets) i_X10_judge_80 l_X10_210 m_X10_forgets (c_X10_forgets hk1.1) rfl rfl rfl rfl rfl ?_
        intro r9 M9 hr9
        obtain ⟨rfl, K2, hk2, rfl⟩ := hr9
        refine X_tl0 ?_
        refine Y_iload_3 i_X10_judge_83 ?_
        refine X_iret i_X10_judge_84 rfl ?_
        exact zay0 (by unfold w_judge; (try rw [sFb2_e]); repeat (first | omega | split)) (zvi (by unfold a_judge sWt; rw [sFst_none _ hno, if_neg (Nat.lt_irrefl _)])) (zey_s (sRS_in _ hS _) (hk1.2.tr hk2).mo)
      | succ n ih =>
        intro j  hg hno
        have hO := sRun_ok hA j
        have hgg := hO.2 x (by omega) (by omega)
        unfold zG at hgg
        have hrow := hT.2 j (by omega) (by omega)
        refine Y_iload_4 i_X10_judge_34 ?_
        refine Y_iload_2 i_X10_judge_36 ?_
        refine X_icmp_ge i_X10_judge_37 (tgt := 79) rfl ⟨by omega, by omega⟩ ⟨by omega, by omega⟩ (fun h37 => by exfalso; omega) (fun h37 => ?_)
        refine Y_iload_3 i_X10_judge_40 ?_
        refine X_if_ge i_X10_judge_41 (tgt := 79) rfl ⟨by omega, by omega⟩ (fun h41 => by exfalso; omega) (fun h41 => ?_)
        refine Y_aload_0 i_X10_judge_44 ?_
        refine X_getR i_X10_judge_45 f_X10_19 rfl ?_
        refine Y_iload_1 i_X10_judge_48 ?_
        refine Y_iald i_X10_judge_49 rfl ⟨by omega, by omega⟩ rfl (zg0 _ _ _ _ _) ?_
        refine Y_aload_0 i_X10_judge_50 ?_
        refine X_getR i_X10_judge_51 f_X10_49 rfl ?_
        refine Y_iload_4 i_X10_judge_54 ?_
        refine Y_iald i_X10_judge_56 rfl ⟨by omega, by omega⟩ rfl (zg1 rfl (zg1 rfl (zg1 rfl (zg0 _ _ _ _ _)))) ?_
        rw [show zwr (N 5) 1 0 0 0 (j : Int) = N 5 0 j from zwr_r (by decide)]
        refine Y_icmp_ne i_X10_judge_57 (tgt := 65) rfl ⟨by omega, by omega⟩ ⟨by omega, by omega⟩ (fun h57 => ?_) (fun h57 => ?_)
        · refine Y_iload_4 i_X10_judge_65 ?_
          refine Y_istore_3 i_X10_judge_67 rfl rfl ?_
          refine Y_aload_0 i_X10_judge_68 ?_
          refine X_iconst i_X10_judge_69 ?_
          refine Y_callVv (k' := kX10_goesMinute) i_X10_judge_70 l_X10_197 m_X10_goesMinute (c_X10_goesMinute hO (sRS_in _ hS j) (by omega)) rfl rfl rfl rfl rfl ?_
          refine Y_iinc_4 i_X10_judge_73 rfl rfl ?_
          refine X_goto i_X10_judge_76 (tgt := 34) rfl ?_
          exact X_eq (out j (j + 1) _ _ (by omega) (by omega) (sRS_in _ hS (j + 1)) (by unfold sWt; rw [sFst_eq hno (by unfold sPt; exact decide_eq_true h57) _ (by omega), if_pos (by omega)])) (by simp) rfl rfl
        · refine X_bipush i_X10_judge_60 (by decide +kernel) ?_
          refine X_goto i_X10_judge_62 (tgt := 67) rfl ?_
          refine Y_istore_3 i_X10_judge_67 rfl rfl ?_
          refine Y_aload_0 i_X10_judge_68 ?_
          refine X_iconst i_X10_judge_69 ?_
          refine Y_callVv (k' := kX10_goesMinute) i_X10_judge_70 l_X10_197 m_X10_goesMinute (c_X10_goesMinute hO (sRS_in _ hS j) (by omega)) rfl rfl rfl rfl rfl ?_
          refine Y_iinc_4 i_X10_judge_73 rfl rfl ?_
          refine X_goto i_X10_judge_76 (tgt := 34) rfl ?_
          exact X_eq (ih (j + 1) (by omega) (fun q hq => by
            by_cases e : q = j
            · subst e; unfold sPt; exact decide_eq_false (fun z => z h57)
            · exact hno q (by omega))) (by simp) rfl rfl
    exact loop (sTn (N 5)) 0 (by omega) (fun q h => absurd h (by omega))
  · refine Y_aload_0 i_X10_judge_8 ?_
    refine X_iconst i_X10_judge_9 ?_
    refine Y_callV (k' := kX10_no) i_X10_judge_10 l_X10_75 m_X10_no (c_X10_no (by omega) (by omega)) rfl rfl rfl rfl rfl ?_
    refine X_iret i_X10_judge_13 rfl ?_
    exact zay1 (by unfold w_judge; (try rw [sFb2_e]); repeat (first | omega | split)) (by omega) hS
set_option maxRecDepth 100000 in
theorem c_X10_isSo {M : zMem} {A S K T : zAft} (hA : zOk 999 A) (hS : zSv S) (hT : zTo T) {x : Int} (x0 : 0 ≤ x) (x1 : x < 6) : zCt kX10_isSo 4 [.ref 38, .int (zii x)] ((zs (zs (zs (zs M 15 T) 14 S) 13 K) 3 A)) (zQm 84 (.int (zii (if sSo A T x (sTn T) = true then 1 else 0))) (zs M 15 T) K A) := by
  have h6 := hA.1
  unfold zH at h6
  have hG := sG_le hA.1
  have hTn : (sTn T : Int) = T 1 0 ∧ sTn T ≤ 12 := by have := hT.1; unfold sTn; omega
  refine zMet (by decide) (Nat.le_of_ble_eq_true rfl) ?_
  show zX kX10_isSo 4 0 [some (.ref 38), some (.int (zii x)), none, none] [] _ _
  refine Y_aload_0 i_X10_isSo_0 ?_
  refine Y_callVq (k' := kX10_thinks) i_X10_isSo_1 l_X10_207 m_X10_thinks c_X10_thinks rfl rfl rfl rfl rfl ?_
  intro r9 M9 hr9
  obtain ⟨rfl, K1, hk1, rfl⟩ := hr9
  refine X_tl0 ?_
  refine X_iconst i_X10_isSo_4 ?_
  refine Y_istore_2 i_X10_isSo_5 rfl rfl ?_
  refine X_iconst i_X10_isSo_6 ?_
  refine Y_istore_3 i_X10_isSo_7 rfl rfl ?_
  have out : ∀ (j : Nat) (B U : zAft), j ≤ 100 → zSv U → ¬ sSo A T x (sTn T) = true → zX kX10_isSo 4 8 [some (.ref 38), some (.int (zii x)), some (.int (zii 0)), some (.int (zii (j : Nat)))] [] (zs (zs (zs (zs M 15 T) 14 U) 13 K1) 3 B) (zQm 84 (.int (zii (if sSo A T x (sTn T) = true then 1 else 0))) (zs M 15 T) K A) := by
    intro j B U hj hU he
    refine Y_iload_3 i_X10_isSo_8 ?_
    refine Y_aload_0 i_X10_isSo_9 ?_
    refine Y_getI i_X10_isSo_10 f_X10_256 rfl (zg1 rfl (zg1 rfl (zg1 rfl (zg0 _ _ _ _ _)))) ?_
    refine X_icmp_ge i_X10_isSo_13 (tgt := 52) rfl ⟨by omega, by omega⟩ ⟨by omega, by omega⟩ (fun h13 => ?_) (fun h13 => ?_)
    · refine Y_aload_0 i_X10_isSo_52 ?_
      refine Y_callVq (k' := kX10_forgets) i_X10_isSo_53 l_X10_210 m_X10_forgets (c_X10_forgets hk1.1) rfl rfl rfl rfl rfl ?_
      intro r9 M9 hr9
      obtain ⟨rfl, K2, hk2, rfl⟩ := hr9
      refine X_tl0 ?_
      refine Y_iload_2 i_X10_isSo_56 ?_
      refine X_zret i_X10_isSo_57 rfl (by omega) ?_
      exact ⟨by rw [if_neg he], U, K2, hU, hk1.2.tr hk2, rfl⟩
    · refine Y_iload_2 i_X10_isSo_16 ?_
      refine X_if_eq i_X10_isSo_17 (tgt := 52) rfl ⟨by omega, by omega⟩ (fun h17 => ?_) (fun h17 => by exfalso; omega)
      refine Y_aload_0 i_X10_isSo_52 ?_
      refine Y_callVq (k' := kX10_forgets) i_X10_isSo_53 l_X10_210 m_X10_forgets (c_X10_forgets hk1.1) rfl rfl rfl rfl rfl ?_
      intro r9 M9 hr9
      obtain ⟨rfl, K2, hk2, rfl⟩ := hr9
      refine X_tl0 ?_
      refine Y_iload_2 i_X10_isSo_56 ?_
      refine X_zret i_X10_isSo_57 rfl (by omega) ?_
      exact ⟨by rw [if_neg he], U, K2, hU, hk1.2.tr hk2, rfl⟩
  have loop : ∀ (n : Nat) (j : Nat), j + n = sTn T → sSo A T x j = true → zX kX10_isSo 4 8 [some (.ref 38), some (.int (zii x)), some (.int (zii 1)), some (.int (zii (j : Nat)))] [] (zs (zs (zs (zs M 15 T) 14 (sRS A S j)) 13 K1) 3 (sRun A j)) (zQm 84 (.int (zii (if sSo A T x (sTn T) = true then 1 else 0))) (zs M 15 T) K A) := by
    intro n
    induction n with
    | zero =>
      intro j  hg hso
      obtain rfl : j = sTn T := by omega
      refine Y_iload_3 i_X10_isSo_8 ?_
      refine Y_aload_0 i_X10_isSo_9 ?_
      refine Y_getI i_X10_isSo_10 f_X10_256 rfl (zg1 rfl (zg1 rfl (zg1 rfl (zg0 _ _ _ _ _)))) ?_
      refine X_icmp_ge i_X10_isSo_13 (tgt := 52) rfl ⟨by omega, by omega⟩ ⟨by omega, by omega⟩ (fun h13 => ?_) (fun h13 => by exfalso; omega)
      refine Y_aload_0 i_X10_isSo_52 ?_
      refine Y_callVq (k' := kX10_forgets) i_X10_isSo_53 l_X10_210 m_X10_forgets (c_X10_forgets hk1.1) rfl rfl rfl rfl rfl ?_
      intro r9 M9 hr9
      obtain ⟨rfl, K2, hk2, rfl⟩ := hr9
      refine X_tl0 ?_
      refine Y_iload_2 i_X10_isSo_56 ?_
      refine X_zret i_X10_isSo_57 rfl (by omega) ?_
      exact ⟨by rw [if_pos hso], _, K2, sRS_in _ hS _, hk1.2.tr hk2, rfl⟩
    | succ n ih =>
      intro j  hg hso
      have hO := sRun_ok hA j
      have hgg := hO.2 x x0 x1
      unfold zG at hgg
      have hrow := hT.2 j (by omega) (by omega)
      refine Y_iload_3 i_X10_isSo_8 ?_
      refine Y_aload_0 i_X10_isSo_9 ?_
      refine Y_getI i_X10_isSo_10 f_X10_256 rfl (zg1 rfl (zg1 rfl (zg1 rfl (zg0 _ _ _ _ _)))) ?_
      refine X_icmp_ge i_X10_isSo_13 (tgt := 52) rfl ⟨by omega, by omega⟩ ⟨by omega, by omega⟩ (fun h13 => by exfalso; omega) (fun h13 => ?_)
      refine Y_iload_2 i_X10_isSo_16 ?_
      refine X_if_eq i_X10_isSo_17 (tgt := 52) rfl ⟨by omega, by omega⟩ (fun h17 => by exfalso; omega) (fun h17 => ?_)
      refine Y_aload_0 i_X10_isSo_20 ?_
      refine X_getR i_X10_isSo_21 f_X10_22 rfl ?_
      refine Y_iload_1 i_X10_isSo_24 ?_
      refine Y_iald i_X10_isSo_25 rfl ⟨by omega, by omega⟩ rfl (zg0 _ _ _ _ _) ?_
      refine Y_aload_0 i_X10_isSo_26 ?_
      refine X_getR i_X10_isSo_27 f_X10_49 rfl ?_
      refine Y_iload_3 i_X10_isSo_30 ?_
      refine Y_iald i_X10_isSo_31 rfl ⟨by omega, by omega⟩ rfl (zg1 rfl (zg1 rfl (zg1 rfl (zg0 _ _ _ _ _)))) ?_
      refine Y_icmp_ne i_X10_isSo_32 (tgt := 39) rfl ⟨by omega, by omega⟩ ⟨by omega, by omega⟩ (fun h32 => ?_) (fun h32 => ?_)
      · refine X_iconst i_X10_isSo_39 ?_
        refine Y_istore_2 i_X10_isSo_40 rfl rfl ?_
        refine Y_aload_0 i_X10_isSo_41 ?_
        refine X_iconst i_X10_isSo_42 ?_
        refine Y_callVv (k' := kX10_goesMinute) i_X10_isSo_43 l_X10_197 m_X10_goesMinute (c_X10_goesMinute hO (sRS_in _ hS j) (by omega)) rfl rfl rfl rfl rfl ?_
        refine Y_iinc_3 i_X10_isSo_46 rfl rfl ?_
        refine X_goto i_X10_isSo_49 (tgt := 8) rfl ?_
        exact X_eq (out (j + 1) _ _ (by omega) (sRS_in _ hS (j + 1)) (fun z => by
          have z2 := sSo_le (n := j + 1) (by omega) z
          simp only [sSo, Bool.and_eq_true, decide_eq_true_eq] at z2
          exact h32 z2.2)) (by simp) rfl rfl
      · refine X_iconst i_X10_isSo_35 ?_
        refine X_goto i_X10_isSo_36 (tgt := 40) rfl ?_
        refine Y_istore_2 i_X10_isSo_40 rfl rfl ?_
        refine Y_aload_0 i_X10_isSo_41 ?_
        refine X_iconst i_X10_isSo_42 ?_
        refine Y_callVv (k' := kX10_goesMinute) i_X10_isSo_43 l_X10_197 m_X10_goesMinute (c_X10_goesMinute hO (sRS_in _ hS j) (by omega)) rfl rfl rfl rfl rfl ?_
        refine Y_iinc_3 i_X10_isSo_46 rfl rfl ?_
        refine X_goto i_X10_isSo_49 (tgt := 8) rfl ?_
        exact X_eq (ih (j + 1) (by omega) (by simp only [sSo, Bool.and_eq_true, decide_eq_true_eq]; exact ⟨hso, h32⟩)) (by simp) rfl rfl
  exact loop (sTn T) 0 (by omega) rfl
set_option maxRecDepth 100000 in
theorem c_X10_bitsFor0 {M : zMem} {A S K T : zAft} (hA : zOk 999 A) (hS : zSv S) (hT : zTo T) {x : Int} (x0 : 0 ≤ x) (x1 : x < 6) : zCt kX10_bitsFor 5 [.ref 38, .ref 40, .int (zii x), .int (zii 6)] ((zs (zs (zs (zs M 15 T) 14 S) 13 K) 3 A)) (zQm 42 (.int (zii (sFit A T x 0 6))) (zs M 15 T) K A) := by
  have h6 := hA.1
  unfold zH at h6
  have hG := sG_le hA.1
  refine zMet (by decide) (Nat.le_of_ble_eq_true rfl) ?_
  show zX kX10_bitsFor 5 0 [some (.ref 38), some (.ref 40), some (.int (zii x)), some (.int (zii 6)), none, none, none] [] _ _
  refine Y_aload_1 i_X10_bitsFor_0 ?_
  refine Y_iload_2 i_X10_bitsFor_1 ?_
  refine Y_iald i_X10_bitsFor_2 rfl ⟨by omega, by omega⟩ rfl (zg0 _ _ _ _ _) ?_
  refine Y_istore_4 i_X10_bitsFor_3 rfl rfl ?_
  refine X_iconst i_X10_bitsFor_5 ?_
  refine Y_istore_5 i_X10_bitsFor_6 rfl rfl ?_
  refine X_iconst i_X10_bitsFor_8 ?_
  refine Y_istore_6 i_X10_bitsFor_9 rfl rfl ?_
  have loop : ∀ (n : Nat) (j : Nat) (U R : zAft) (c : Int), j + n = 6 → zSv U → zKe 42 K R → zX kX10_bitsFor 5 11 [some (.ref 38), some (.ref 40), some (.int (zii x)), some (.int (zii 6)), some (.int (zii (A 0 x))), some (.int (zii (sFit A T x 0 j))), some (.int (zii (j : Nat)))] [] (zs (zs (zs (zs M 15 T) 14 U) 13 R) 3 (zwr A 0 x c)) (zQm 42 (.int (zii (sFit A T x 0 6))) (zs M 15 T) K A) := by
    intro n
    induction n with
    | zero =>
      intro j U R c hg hU hR
      obtain rfl : j = 6 := by omega
      refine Y_iload_6 i_X10_bitsFor_11 ?_
      refine Y_iload_3 i_X10_bitsFor_13 ?_
      refine X_icmp_ge i_X10_bitsFor_14 (tgt := 49) rfl ⟨by omega, by omega⟩ ⟨by omega, by omega⟩ (fun h14 => ?_) (fun h14 => by exfalso; omega)
      refine Y_aload_1 i_X10_bitsFor_49 ?_
      refine Y_iload_2 i_X10_bitsFor_50 ?_
      refine Y_iload_4 i_X10_bitsFor_51 ?_
      refine Y_iast i_X10_bitsFor_53 rfl ⟨by omega, by omega⟩ rfl (zp0 _ _ _ _ _ _) ?_
      rw [zwr_w, zwr_id]
      refine Y_iload_5 i_X10_bitsFor_54 ?_
      refine X_iret i_X10_bitsFor_56 rfl ?_
      exact ⟨rfl, U, R, hU, hR, rfl⟩
    | succ n ih =>
      intro j U R c hg hU hR
      have hre : sRe A x 0 (j : Int) = (zwr A 0 x (j : Int)) := by unfold sRe; rw [if_pos rfl]
      have hB : zOk 999 (zwr A 0 x (j : Int)) := by rw [← hre]; exact sRe_ok hA x0 x1 ⟨by omega, fun _ => by omega, fun _ => by omega, by omega⟩
      refine Y_iload_6 i_X10_bitsFor_11 ?_
      refine Y_iload_3 i_X10_bitsFor_13 ?_
      refine X_icmp_ge i_X10_bitsFor_14 (tgt := 49) rfl ⟨by omega, by omega⟩ ⟨by omega, by omega⟩ (fun h14 => by exfalso; omega) (fun h14 => ?_)
      refine Y_aload_1 i_X10_bitsFor_17 ?_
      refine Y_iload_2 i_X10_bitsFor_18 ?_
      refine Y_iload_6 i_X10_bitsFor_19 ?_
      refine Y_iast i_X10_bitsFor_21 rfl ⟨by omega, by omega⟩ rfl (zp0 _ _ _ _ _ _) ?_
      rw [zwr_w]
      refine Y_iload_5 i_X10_bitsFor_22 ?_
      refine Y_aload_0 i_X10_bitsFor_24 ?_
      refine Y_iload_2 i_X10_bitsFor_25 ?_
      refine Y_callVq (k' := kX10_isSo) i_X10_bitsFor_26 l_X10_259 m_X10_isSo (c_X10_isSo hB hU hT x0 x1) rfl rfl rfl rfl rfl ?_
      intro r9 M9 hr9
      obtain ⟨rfl, S1, K1, hS1, hk1, rfl⟩ := hr9
      refine X_tl ?_
      refine Y_ifq_eq i_X10_bitsFor_29 (tgt := 39) rfl  (fun h29 => ?_) (fun h29 => ?_)
      · refine X_iconst i_X10_bitsFor_39 ?_
        refine X_ior i_X10_bitsFor_40 ?_
        refine Y_istore_5 i_X10_bitsFor_41 rfl rfl ?_
        refine Y_iinc_6 i_X10_bitsFor_43 rfl rfl ?_
        refine X_goto i_X10_bitsFor_46 (tgt := 11) rfl ?_
        exact X_eq (ih (j + 1) S1 K1 _ (by omega) hS1 (hR.tr hk1.mo)) (by simp only [sFit]; rw [hre, if_neg h29]; first | rfl | (rw [zor_0]; rfl)) rfl rfl
      · refine X_iconst i_X10_bitsFor_32 ?_
        refine Y_iload_6 i_X10_bitsFor_33 ?_
        refine X_ishl i_X10_bitsFor_35 ?_
        refine X_goto i_X10_bitsFor_36 (tgt := 40) rfl ?_
        refine X_ior i_X10_bitsFor_40 ?_
        refine Y_istore_5 i_X10_bitsFor_41 rfl rfl ?_
        refine Y_iinc_6 i_X10_bitsFor_43 rfl rfl ?_
        refine X_goto i_X10_bitsFor_46 (tgt := 11) rfl ?_
        exact X_eq (ih (j + 1) S1 K1 _ (by omega) hS1 (hR.tr hk1.mo)) (by simp only [sFit]; rw [hre, if_pos h29]; first | rfl | (rw [zor_0]; rfl)) rfl rfl
  refine X_mm (M' := (zs (zs (zs (zs M 15 T) 14 S) 13 K) 3 (zwr A 0 x (A 0 x)))) (by rw [zwr_id]) ?_
  exact loop 6 0 S K _ (by omega) hS zKe.rf
set_option maxRecDepth 100000 in
theorem c_X10_bitsFor1 {M : zMem} {A S K T : zAft} (hA : zOk 999 A) (hS : zSv S) (hT : zTo T) {x : Int} (x0 : 0 ≤ x) (x1 : x < 6) : zCt kX10_bitsFor 5 [.ref 38, .ref 41, .int (zii x), .int (zii 10)] ((zs (zs (zs (zs M 15 T) 14 S) 13 K) 3 A)) (zQm 42 (.int (zii (sFit A T x 1 10))) (zs M 15 T) K A) := by
  have h6 := hA.1
  unfold zH at h6
  have hG := sG_le hA.1
  refine zMet (by decide) (Nat.le_of_ble_eq_true rfl) ?_
  show zX kX10_bitsFor 5 0 [some (.ref 38), some (.ref 41), some (.int (zii x)), some (.int (zii 10)), none, none, none] [] _ _
  refine Y_aload_1 i_X10_bitsFor_0 ?_
  refine Y_iload_2 i_X10_bitsFor_1 ?_
  refine Y_iald i_X10_bitsFor_2 rfl ⟨by omega, by omega⟩ rfl (zg0 _ _ _ _ _) ?_
  refine Y_istore_4 i_X10_bitsFor_3 rfl rfl ?_
  refine X_iconst i_X10_bitsFor_5 ?_
  refine Y_istore_5 i_X10_bitsFor_6 rfl rfl ?_
  refine X_iconst i_X10_bitsFor_8 ?_
  refine Y_istore_6 i_X10_bitsFor_9 rfl rfl ?_
  have loop : ∀ (n : Nat) (j : Nat) (U R : zAft) (c : Int), j + n = 10 → zSv U → zKe 42 K R → zX kX10_bitsFor 5 11 [some (.ref 38), some (.ref 41), some (.int (zii x)), some (.int (zii 10)), some (.int (zii (A 1 x))), some (.int (zii (sFit A T x 1 j))), some (.int (zii (j : Nat)))] [] (zs (zs (zs (zs M 15 T) 14 U) 13 R) 3 (zwr A 1 x c)) (zQm 42 (.int (zii (sFit A T x 1 10))) (zs M 15 T) K A) := by
    intro n
    induction n with
    | zero =>
      intro j U R c hg hU hR
      obtain rfl : j = 10 := by omega
      refine Y_iload_6 i_X10_bitsFor_11 ?_
      refine Y_iload_3 i_X10_bitsFor_13 ?_
      refine X_icmp_ge i_X10_bitsFor_14 (tgt := 49) rfl ⟨by omega, by omega⟩ ⟨by omega, by omega⟩ (fun h14 => ?_) (fun h14 => by exfalso; omega)
      refine Y_aload_1 i_X10_bitsFor_49 ?_
      refine Y_iload_2 i_X10_bitsFor_50 ?_
      refine Y_iload_4 i_X10_bitsFor_51 ?_
      refine Y_iast i_X10_bitsFor_53 rfl ⟨by omega, by omega⟩ rfl (zp0 _ _ _ _ _ _) ?_
      rw [zwr_w, zwr_id]
      refine Y_iload_5 i_X10_bitsFor_54 ?_
      refine X_iret i_X10_bitsFor_56 rfl ?_
      exact ⟨rfl, U, R, hU, hR, rfl⟩
    | succ n ih =>
      intro j U R c hg hU hR
      have hre : sRe A x 1 (j : Int) = (zwr A 1 x (j : Int)) := by unfold sRe; rw [if_neg (by decide), if_pos rfl]
      have hB : zOk 999 (zwr A 1 x (j : Int)) := by rw [← hre]; exact sRe_ok hA x0 x1 ⟨by omega, fun _ => by omega, fun _ => by omega, by omega⟩
      refine Y_iload_6 i_X10_bitsFor_11 ?_
      refine Y_iload_3 i_X10_bitsFor_13 ?_
      refine X_icmp_ge i_X10_bitsFor_14 (tgt := 49) rfl ⟨by omega, by omega⟩ ⟨by omega, by omega⟩ (fun h14 => by exfalso; omega) (fun h14 => ?_)
      refine Y_aload_1 i_X10_bitsFor_17 ?_
      refine Y_iload_2 i_X10_bitsFor_18 ?_
      refine Y_iload_6 i_X10_bitsFor_19 ?_
      refine Y_iast i_X10_bitsFor_21 rfl ⟨by omega, by omega⟩ rfl (zp0 _ _ _ _ _ _) ?_
      rw [zwr_w]
      refine Y_iload_5 i_X10_bitsFor_22 ?_
      refine Y_aload_0 i_X10_bitsFor_24 ?_
      refine Y_iload_2 i_X10_bitsFor_25 ?_
      refine Y_callVq (k' := kX10_isSo) i_X10_bitsFor_26 l_X10_259 m_X10_isSo (c_X10_isSo hB hU hT x0 x1) rfl rfl rfl rfl rfl ?_
      intro r9 M9 hr9
      obtain ⟨rfl, S1, K1, hS1, hk1, rfl⟩ := hr9
      refine X_tl ?_
      refine Y_ifq_eq i_X10_bitsFor_29 (tgt := 39) rfl  (fun h29 => ?_) (fun h29 => ?_)
      · refine X_iconst i_X10_bitsFor_39 ?_
        refine X_ior i_X10_bitsFor_40 ?_
        refine Y_istore_5 i_X10_bitsFor_41 rfl rfl ?_
        refine Y_iinc_6 i_X10_bitsFor_43 rfl rfl ?_
        refine X_goto i_X10_bitsFor_46 (tgt := 11) rfl ?_
        exact X_eq (ih (j + 1) S1 K1 _ (by omega) hS1 (hR.tr hk1.mo)) (by simp only [sFit]; rw [hre, if_neg h29]; first | rfl | (rw [zor_0]; rfl)) rfl rfl
      · refine X_iconst i_X10_bitsFor_32 ?_
        refine Y_iload_6 i_X10_bitsFor_33 ?_
        refine X_ishl i_X10_bitsFor_35 ?_
        refine X_goto i_X10_bitsFor_36 (tgt := 40) rfl ?_
        refine X_ior i_X10_bitsFor_40 ?_
        refine Y_istore_5 i_X10_bitsFor_41 rfl rfl ?_
        refine Y_iinc_6 i_X10_bitsFor_43 rfl rfl ?_
        refine X_goto i_X10_bitsFor_46 (tgt := 11) rfl ?_
        exact X_eq (ih (j + 1) S1 K1 _ (by omega) hS1 (hR.tr hk1.mo)) (by simp only [sFit]; rw [hre, if_pos h29]; first | rfl | (rw [zor_0]; rfl)) rfl rfl
  refine X_mm (M' := (zs (zs (zs (zs M 15 T) 14 S) 13 K) 3 (zwr A 1 x (A 1 x)))) (by rw [zwr_id]) ?_
  exact loop 10 0 S K _ (by omega) hS zKe.rf
theorem sFit_n (A T : zAft) (x w : Int) : ∀ n : Nat, n ≤ 31 → sFit A T x w n = (sPw (fun v : Nat => sSo (sRe A x w (v : Int)) T x (sTn T)) n : Nat) := by
  intro n
  induction n with
  | zero => intro _; rfl
  | succ n ih =>
    intro hn
    simp only [sFit, sPw]
    split
    · rw [ih (by omega), zor_add n _ (by omega) (sPw_lt _ n)]
    · exact ih (by omega)
theorem sCn_le (p : Nat → Bool) : ∀ n : Nat, sCn p n ≤ n := by
  intro n
  induction n with
  | zero => simp [sCn]
  | succ n ih => simp only [sCn]; split <;> omega
set_option maxRecDepth 100000 in
theorem c_X10_thirstsFor {M : zMem} {A S K T : zAft} (hA : zOk 999 A) (hS : zSv S) (hT : zTo T) {x : Int} (x0 : 0 ≤ x) (x1 : x < 6) : zCt kX10_thirstsFor 5 [.ref 38, .int (zii x)] ((zs (zs (zs (zs M 15 T) 14 S) 13 K) 3 A)) (zQm 42 (.int (zii (sCn (fun v : Nat => sSo (sRe A x 2 (v : Int)) T x (sTn T)) 31 : Nat))) (zs M 15 T) K A) := by
  have h6 := hA.1
  unfold zH at h6
  have hG := sG_le hA.1
  refine zMet (by decide) (Nat.le_of_ble_eq_true rfl) ?_
  show zX kX10_thirstsFor 5 0 [some (.ref 38), some (.int (zii x)), none, none, none] [] _ _
  refine Y_aload_0 i_X10_thirstsFor_0 ?_
  refine X_getR i_X10_thirstsFor_1 f_X10_19 rfl ?_
  refine Y_iload_1 i_X10_thirstsFor_4 ?_
  refine Y_iald i_X10_thirstsFor_5 rfl ⟨by omega, by omega⟩ rfl (zg0 _ _ _ _ _) ?_
  refine Y_istore_2 i_X10_thirstsFor_6 rfl rfl ?_
  refine X_iconst i_X10_thirstsFor_7 ?_
  refine Y_istore_3 i_X10_thirstsFor_8 rfl rfl ?_
  refine X_iconst i_X10_thirstsFor_9 ?_
  refine Y_istore_4 i_X10_thirstsFor_10 rfl rfl ?_
  have loop : ∀ (n : Nat) (j : Nat) (U R : zAft) (c : Int), j + n = 31 → zSv U → zKe 42 K R → zX kX10_thirstsFor 5 12 [some (.ref 38), some (.int (zii x)), some (.int (zii (A 2 x))), some (.int (zii (sCn (fun v : Nat => sSo (sRe A x 2 (v : Int)) T x (sTn T)) j : Nat))), some (.int (zii (j : Nat)))] [] (zs (zs (zs (zs M 15 T) 14 U) 13 R) 3 (zwr A 2 x c)) (zQm 42 (.int (zii (sCn (fun v : Nat => sSo (sRe A x 2 (v : Int)) T x (sTn T)) 31 : Nat))) (zs M 15 T) K A) := by
    intro n
    induction n with
    | zero =>
      intro j U R c hg hU hR
      obtain rfl : j = 31 := by omega
      refine Y_iload_4 i_X10_thirstsFor_12 ?_
      refine X_bipush i_X10_thirstsFor_14 (by decide +kernel) ?_
      refine X_icmp_gt i_X10_thirstsFor_16 (tgt := 49) rfl ⟨by omega, by omega⟩ ⟨by omega, by omega⟩ (fun h16 => ?_) (fun h16 => by exfalso; omega)
      refine Y_aload_0 i_X10_thirstsFor_49 ?_
      refine X_getR i_X10_thirstsFor_50 f_X10_19 rfl ?_
      refine Y_iload_1 i_X10_thirstsFor_53 ?_
      refine Y_iload_2 i_X10_thirstsFor_54 ?_
      refine Y_iast i_X10_thirstsFor_55 rfl ⟨by omega, by omega⟩ rfl (zp0 _ _ _ _ _ _) ?_
      rw [zwr_w, zwr_id]
      refine Y_iload_3 i_X10_thirstsFor_56 ?_
      refine X_iret i_X10_thirstsFor_57 rfl ?_
      exact ⟨rfl, U, R, hU, hR, rfl⟩
    | succ n ih =>
      intro j U R c hg hU hR
      have hre : sRe A x 2 (j : Int) = (zwr A 2 x (j : Int)) := by unfold sRe; rw [if_neg (by decide), if_neg (by decide)]
      have hB : zOk 999 (zwr A 2 x (j : Int)) := by rw [← hre]; exact sRe_ok hA x0 x1 ⟨by omega, fun z => absurd z (by decide), fun z => absurd z (by decide), by omega⟩
      have hcn := sCn_le (fun v : Nat => sSo (sRe A x 2 (v : Int)) T x (sTn T)) j
      refine Y_iload_4 i_X10_thirstsFor_12 ?_
      refine X_bipush i_X10_thirstsFor_14 (by decide +kernel) ?_
      refine X_icmp_gt i_X10_thirstsFor_16 (tgt := 49) rfl ⟨by omega, by omega⟩ ⟨by omega, by omega⟩ (fun h16 => by exfalso; omega) (fun h16 => ?_)
      refine Y_aload_0 i_X10_thirstsFor_19 ?_
      refine X_getR i_X10_thirstsFor_20 f_X10_19 rfl ?_
      refine Y_iload_1 i_X10_thirstsFor_23 ?_
      refine Y_iload_4 i_X10_thirstsFor_24 ?_
      refine Y_iast i_X10_thirstsFor_26 rfl ⟨by omega, by omega⟩ rfl (zp0 _ _ _ _ _ _) ?_
      rw [zwr_w]
      refine Y_iload_3 i_X10_thirstsFor_27 ?_
      refine Y_aload_0 i_X10_thirstsFor_28 ?_
      refine Y_iload_1 i_X10_thirstsFor_29 ?_
      refine Y_callVq (k' := kX10_isSo) i_X10_thirstsFor_30 l_X10_259 m_X10_isSo (c_X10_isSo hB hU hT x0 x1) rfl rfl rfl rfl rfl ?_
      intro r9 M9 hr9
      obtain ⟨rfl, S1, K1, hS1, hk1, rfl⟩ := hr9
      refine X_tl ?_
      refine Y_ifq_eq i_X10_thirstsFor_33 (tgt := 40) rfl  (fun h33 => ?_) (fun h33 => ?_)
      · refine X_iconst i_X10_thirstsFor_40 ?_
        refine X_iadd i_X10_thirstsFor_41 ?_
        refine Y_istore_3 i_X10_thirstsFor_42 rfl rfl ?_
        refine Y_iinc_4 i_X10_thirstsFor_43 rfl rfl ?_
        refine X_goto i_X10_thirstsFor_46 (tgt := 12) rfl ?_
        exact X_eq (ih (j + 1) S1 K1 _ (by omega) hS1 (hR.tr hk1.mo)) (by simp only [sCn]; rw [if_neg (hre.symm ▸ h33)]; first | rfl | simp) rfl rfl
      · refine X_iconst i_X10_thirstsFor_36 ?_
        refine X_goto i_X10_thirstsFor_37 (tgt := 41) rfl ?_
        refine X_iadd i_X10_thirstsFor_41 ?_
        refine Y_istore_3 i_X10_thirstsFor_42 rfl rfl ?_
        refine Y_iinc_4 i_X10_thirstsFor_43 rfl rfl ?_
        refine X_goto i_X10_thirstsFor_46 (tgt := 12) rfl ?_
        exact X_eq (ih (j + 1) S1 K1 _ (by omega) hS1 (hR.tr hk1.mo)) (by simp only [sCn]; rw [if_pos (hre.symm ▸ h33)]; first | rfl | simp) rfl rfl
  refine X_mm (M' := (zs (zs (zs (zs M 15 T) 14 S) 13 K) 3 (zwr A 2 x (A 2 x)))) (by rw [zwr_id]) ?_
  exact loop 31 0 S K _ (by omega) hS zKe.rf
set_option maxRecDepth 100000 in
theorem c_X10_who {M N : zMem} {S K : zAft} (hA : zOk 999 (N 0)) (hS : zSv S) {x : Int} (h_x : zR x) {w : Int} (h_w : zR w) (hT : zTo (N 5)) : zCt kX10_who 6 [.ref 38, .int (zii x), .int (zii w)] ((zs (zs (zs (zs M 15 (N 5)) 14 S) 13 K) 3 (N 0))) (zAy (w_who N x w) (.int (zii (w_who N x w))) (.int (zii (a_who N x w))) (zs (zs (zs (zs M 15 (N 5)) 14 S) 13 K) 3 (N 0)) (zs (zs (zs (zs M 15 (N 5)) 14 S) 13 K) 3 (N 0))) := by
  have h6 := hA.1
  unfold zH at h6
  have hG := sG_le hA.1
  have b_x := h_x.1
  have c_x := h_x.2
  have b_w := h_w.1
  have c_w := h_w.2
  refine zMet (by decide) (Nat.le_of_ble_eq_true rfl) ?_
  show zX kX10_who 6 0 [some (.ref 38), some (.int (zii x)), some (.int (zii w)), none] [] _ _
  refine Y_aload_0 i_X10_who_0 ?_
  refine Y_iload_1 i_X10_who_1 ?_
  refine Y_callV (k' := kX10_isGuest) i_X10_who_2 l_X10_111 m_X10_isGuest (c_X10_isGuest (zs_self _ _ _) hA ⟨by omega, by omega⟩) rfl rfl rfl rfl rfl ?_
  refine Y_ifq_ne i_X10_who_5 (tgt := 12) rfl  (fun h5 => ?_) (fun h5 => ?_)
  · refine Y_iload_2 i_X10_who_12 ?_
    refine X_iconst i_X10_who_13 ?_
    refine X_iconst i_X10_who_14 ?_
    refine Y_callS (k' := kX10_isIn) i_X10_who_15 l_X10_86 m_X10_isIn (c_X10_isIn ⟨by omega, by omega⟩ (zR_lit rfl) (zR_lit rfl)) rfl rfl rfl rfl ?_
    refine Y_ifq_ne i_X10_who_18 (tgt := 26) rfl  (fun h18 => ?_) (fun h18 => ?_)
    · refine X_iconst i_X10_who_26 ?_
      refine Y_istore_3 i_X10_who_27 rfl rfl ?_
      refine Y_iload_3 i_X10_who_28 ?_
      refine X_if_eq i_X10_who_29 (tgt := 38) rfl ⟨by omega, by omega⟩ (fun h29 => ?_) (fun h29 => by exfalso; omega)
      refine Y_iload_2 i_X10_who_38 ?_
      refine Y_if_ne i_X10_who_39 (tgt := 56) rfl ⟨by omega, by omega⟩ (fun h39 => ?_) (fun h39 => ?_)
      · refine Y_iload_2 i_X10_who_56 ?_
        refine X_iconst i_X10_who_57 ?_
        refine Y_icmp_ne i_X10_who_58 (tgt := 75) rfl ⟨by omega, by omega⟩ ⟨by omega, by omega⟩ (fun h58 => ?_) (fun h58 => ?_)
        · refine Y_aload_0 i_X10_who_75 ?_
          refine Y_iload_1 i_X10_who_76 ?_
          refine Y_callVq (k' := kX10_thirstsFor) i_X10_who_77 l_X10_266 m_X10_thirstsFor (c_X10_thirstsFor hA hS hT (by omega) (by omega)) rfl rfl rfl rfl rfl ?_
          intro r9 M9 hr9
          obtain ⟨rfl, S1, K1, hS1, hk1, rfl⟩ := hr9
          refine X_tl ?_
          refine X_iret i_X10_who_80 rfl ?_
          exact zay0 (by unfold w_who; (try rw [sFb2_e]); repeat (first | omega | split)) (zvi (by obtain rfl : w = 2 := (by omega); unfold a_who; rw [if_pos rfl]; show _ = zbc (sFit (N 0) (N 5) x 2 31); rw [sFit_n _ _ _ _ 31 (by omega), zbc_sPw])) (zey_s hS1 hk1)
        · refine Y_aload_0 i_X10_who_61 ?_
          refine Y_aload_0 i_X10_who_62 ?_
          refine X_getR i_X10_who_63 f_X10_16 rfl ?_
          refine Y_iload_1 i_X10_who_66 ?_
          refine X_bipush i_X10_who_67 (by decide +kernel) ?_
          refine Y_callVq (k' := kX10_bitsFor) i_X10_who_69 l_X10_262 m_X10_bitsFor (c_X10_bitsFor1 hA hS hT (by omega) (by omega)) rfl rfl rfl rfl rfl ?_
          intro r9 M9 hr9
          obtain ⟨rfl, S1, K1, hS1, hk1, rfl⟩ := hr9
          refine X_tl ?_
          refine X_goto i_X10_who_72 (tgt := 80) rfl ?_
          refine X_iret i_X10_who_80 rfl ?_
          exact zay0 (by unfold w_who; (try rw [sFb2_e]); repeat (first | omega | split)) (zvi (by obtain rfl : w = 1 := (by omega); unfold a_who; rw [if_neg (by decide)]; rfl)) (zey_s hS1 hk1)
      · refine Y_aload_0 i_X10_who_42 ?_
        refine Y_aload_0 i_X10_who_43 ?_
        refine X_getR i_X10_who_44 f_X10_13 rfl ?_
        refine Y_iload_1 i_X10_who_47 ?_
        refine X_bipush i_X10_who_48 (by decide +kernel) ?_
        refine Y_callVq (k' := kX10_bitsFor) i_X10_who_50 l_X10_262 m_X10_bitsFor (c_X10_bitsFor0 hA hS hT (by omega) (by omega)) rfl rfl rfl rfl rfl ?_
        intro r9 M9 hr9
        obtain ⟨rfl, S1, K1, hS1, hk1, rfl⟩ := hr9
        refine X_tl ?_
        refine X_goto i_X10_who_53 (tgt := 80) rfl ?_
        refine X_iret i_X10_who_80 rfl ?_
        exact zay0 (by unfold w_who; (try rw [sFb2_e]); repeat (first | omega | split)) (zvi (by obtain rfl : w = 0 := (by omega); unfold a_who; rw [if_neg (by decide)]; rfl)) (zey_s hS1 hk1)
    · refine X_bipush i_X10_who_21 (by decide +kernel) ?_
      refine X_goto i_X10_who_23 (tgt := 27) rfl ?_
      refine Y_istore_3 i_X10_who_27 rfl rfl ?_
      refine Y_iload_3 i_X10_who_28 ?_
      refine X_if_eq i_X10_who_29 (tgt := 38) rfl ⟨by omega, by omega⟩ (fun h29 => by exfalso; omega) (fun h29 => ?_)
      refine Y_aload_0 i_X10_who_32 ?_
      refine Y_iload_3 i_X10_who_33 ?_
      refine Y_callV (k' := kX10_no) i_X10_who_34 l_X10_75 m_X10_no (c_X10_no (by omega) (by omega)) rfl rfl rfl rfl rfl ?_
      refine X_iret i_X10_who_37 rfl ?_
      exact zay1 (by unfold w_who; (try rw [sFb2_e]); repeat (first | omega | split)) (by omega) hS
  · refine X_iconst i_X10_who_8 ?_
    refine X_goto i_X10_who_9 (tgt := 27) rfl ?_
    refine Y_istore_3 i_X10_who_27 rfl rfl ?_
    refine Y_iload_3 i_X10_who_28 ?_
    refine X_if_eq i_X10_who_29 (tgt := 38) rfl ⟨by omega, by omega⟩ (fun h29 => by exfalso; omega) (fun h29 => ?_)
    refine Y_aload_0 i_X10_who_32 ?_
    refine Y_iload_3 i_X10_who_33 ?_
    refine Y_callV (k' := kX10_no) i_X10_who_34 l_X10_75 m_X10_no (c_X10_no (by omega) (by omega)) rfl rfl rfl rfl rfl ?_
    refine X_iret i_X10_who_37 rfl ?_
    exact zay1 (by unfold w_who; (try rw [sFb2_e]); repeat (first | omega | split)) (by omega) hS
