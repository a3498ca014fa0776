theorem sFc_none {A : zAft} {v : Int} (h : ∀ q : Nat, q < 5 → sFq A v q = false) : sFc A v = -9 := by unfold sFc; rw [sFst_none 5 h, if_pos rfl]
theorem sFc_hit {A : zAft} {v : Int} {j : Nat} (h : ∀ q : Nat, q < j → sFq A v q = false) (hj : sFq A v j = true) (h5 : j < 5) : sFc A v = (j : Int) + 1 := by unfold sFc; rw [sFst_eq h hj 5 h5, if_neg (by omega)]
set_option maxRecDepth 100000 in
theorem c_X10_cupsWanted {M N : zMem} {S K : zAft} (hA : zOk 999 (N 0)) (hS : zSv S) {n : Int} (h_n : zR n) : zCt kX10_cupsWanted 5 [.ref 38, .int (zii n)] ((zs (zs (zs M 14 S) 13 K) 3 (N 0))) (zAy (w_cupsWanted N n) (.int (zii (w_cupsWanted N n))) (.int (zii (a_cupsWanted N n))) (zs (zs (zs M 14 S) 13 K) 3 (N 0)) (zs (zs (zs M 14 S) 13 K) 3 (N 0))) := by
  have h6 := hA.1
  unfold zH at h6
  have hG := sG_le hA.1
  have b_n := h_n.1
  have c_n := h_n.2
  have hfa := sFa_in n
  refine zMet (by decide) (Nat.le_of_ble_eq_true rfl) ?_
  show zX kX10_cupsWanted 5 0 [some (.ref 38), some (.int (zii n)), none, none, none, none] [] _ _
  refine Y_iload_1 i_X10_cupsWanted_0 ?_
  refine Y_callS (k' := kX10_notMinutes) i_X10_cupsWanted_1 l_X10_204 m_X10_notMinutes (c_X10_notMinutes ⟨by omega, by omega⟩) rfl rfl rfl rfl ?_
  refine Y_istore_2 i_X10_cupsWanted_4 rfl rfl ?_
  refine Y_iload_2 i_X10_cupsWanted_5 ?_
  refine X_if_eq i_X10_cupsWanted_6 (tgt := 15) rfl ⟨by omega, by omega⟩ (fun h6 => ?_) (fun h6 => ?_)
  · refine Y_aload_0 i_X10_cupsWanted_15 ?_
    refine Y_getI i_X10_cupsWanted_16 f_X10_58 rfl (zg0 _ _ _ _ _) ?_
    refine Y_istore_3 i_X10_cupsWanted_19 rfl rfl ?_
    refine X_bipush i_X10_cupsWanted_20 (by decide +kernel) ?_
    refine Y_istore_4 i_X10_cupsWanted_22 rfl rfl ?_
    refine X_iconst i_X10_cupsWanted_24 ?_
    refine Y_istore_5 i_X10_cupsWanted_25 rfl rfl ?_
    have out : ∀ (j : Nat) (f c : Int) (T R : zAft), j ≤ 5 → 0 ≤ f → f ≤ 9 → zSv T → zKe 42 K R → sFc (N 0) n = f → zX kX10_cupsWanted 5 27 [some (.ref 38), some (.int (zii n)), some (.int (zii (sFa n))), some (.int (zii (N 0 6 1))), some (.int (zii f)), some (.int (zii ((j : Int) + 1)))] [] (zs (zs (zs M 14 T) 13 R) 3 (zwr (N 0) 6 1 c)) (zAy (w_cupsWanted N n) (.int (zii (w_cupsWanted N n))) (.int (zii (a_cupsWanted N n))) (zs (zs (zs M 14 S) 13 K) 3 (N 0)) (zs (zs (zs M 14 S) 13 K) 3 (N 0))) := by
      intro j f c T R hj hf hf2 hT hR he
      refine Y_iload_5 i_X10_cupsWanted_27 ?_
      refine X_bipush i_X10_cupsWanted_29 (by decide +kernel) ?_
      refine X_icmp_ge i_X10_cupsWanted_31 (tgt := 82) rfl ⟨by omega, by omega⟩ ⟨by omega, by omega⟩ (fun h31 => ?_) (fun h31 => ?_)
      · refine Y_aload_0 i_X10_cupsWanted_82 ?_
        refine Y_iload_3 i_X10_cupsWanted_83 ?_
        refine Y_putI i_X10_cupsWanted_84 f_X10_58 rfl t_7_8 (zp0 _ _ _ _ _ _) ?_
        rw [zwr_w, zwr_id]
        refine Y_iload_4 i_X10_cupsWanted_87 ?_
        refine X_iret i_X10_cupsWanted_89 rfl ?_
        exact zay0 (by unfold w_cupsWanted; (try rw [sFb2_e]); repeat (first | omega | split)) (zvi (by rw [← he]; rfl)) (zey_s hT hR)
      · refine Y_iload_4 i_X10_cupsWanted_34 ?_
        refine X_if_ge i_X10_cupsWanted_36 (tgt := 82) rfl ⟨by omega, by omega⟩ (fun h36 => ?_) (fun h36 => by exfalso; omega)
        refine Y_aload_0 i_X10_cupsWanted_82 ?_
        refine Y_iload_3 i_X10_cupsWanted_83 ?_
        refine Y_putI i_X10_cupsWanted_84 f_X10_58 rfl t_7_8 (zp0 _ _ _ _ _ _) ?_
        rw [zwr_w, zwr_id]
        refine Y_iload_4 i_X10_cupsWanted_87 ?_
        refine X_iret i_X10_cupsWanted_89 rfl ?_
        exact zay0 (by unfold w_cupsWanted; (try rw [sFb2_e]); repeat (first | omega | split)) (zvi (by rw [← he]; rfl)) (zey_s hT hR)
    have loop : ∀ (n1 : Nat) (j : Nat) (c : Int) (T R : zAft), j + n1 = 5 → (∀ q : Nat, q < j → sFq (N 0) n q = false) → zSv T → zKe 42 K R → zX kX10_cupsWanted 5 27 [some (.ref 38), some (.int (zii n)), some (.int (zii (sFa n))), some (.int (zii (N 0 6 1))), some (.int (zii (-9))), some (.int (zii ((j : Int) + 1)))] [] (zs (zs (zs M 14 T) 13 R) 3 (zwr (N 0) 6 1 c)) (zAy (w_cupsWanted N n) (.int (zii (w_cupsWanted N n))) (.int (zii (a_cupsWanted N n))) (zs (zs (zs M 14 S) 13 K) 3 (N 0)) (zs (zs (zs M 14 S) 13 K) 3 (N 0))) := by
      intro n1
      induction n1 with
      | zero =>
        intro j c T R hg hno hT hR
        obtain rfl : j = 5 := by omega
        refine Y_iload_5 i_X10_cupsWanted_27 ?_
        refine X_bipush i_X10_cupsWanted_29 (by decide +kernel) ?_
        refine X_icmp_ge i_X10_cupsWanted_31 (tgt := 82) rfl ⟨by omega, by omega⟩ ⟨by omega, by omega⟩ (fun h31 => ?_) (fun h31 => by exfalso; omega)
        refine Y_aload_0 i_X10_cupsWanted_82 ?_
        refine Y_iload_3 i_X10_cupsWanted_83 ?_
        refine Y_putI i_X10_cupsWanted_84 f_X10_58 rfl t_7_8 (zp0 _ _ _ _ _ _) ?_
        rw [zwr_w, zwr_id]
        refine Y_iload_4 i_X10_cupsWanted_87 ?_
        refine X_iret i_X10_cupsWanted_89 rfl ?_
        exact zay0 (by unfold w_cupsWanted; (try rw [sFb2_e]); repeat (first | omega | split)) (zvi (by unfold a_cupsWanted; rw [sFc_none hno])) (zey_s hT hR)
      | succ n1 ih =>
        intro j c T R hg hno hT hR
        have hB := zOk_6 hA (i := 1) (v := (j : Int) + 1) (Or.inl ⟨rfl, by omega, by omega⟩)
        have hGB := sG_w (A := N 0) (r := 6) (i := 1) (v := (j : Int) + 1) (Or.inr (by decide))
        have hm9 := sMany_6 (N 0) 2 1 ((j : Int) + 1) (by decide)
        have hmi := sMany_in hA.1 2
        have hgb := sGB_all (A := (zwr (N 0) 6 1 ((j : Int) + 1))) (by omega) (by rw [hGB, zwr_i (by decide)]; exact hG.2)
        have hgl := sTg_le (zwr (N 0) 6 1 ((j : Int) + 1)) (-1)
        refine Y_iload_5 i_X10_cupsWanted_27 ?_
        refine X_bipush i_X10_cupsWanted_29 (by decide +kernel) ?_
        refine X_icmp_ge i_X10_cupsWanted_31 (tgt := 82) rfl ⟨by omega, by omega⟩ ⟨by omega, by omega⟩ (fun h31 => by exfalso; omega) (fun h31 => ?_)
        refine Y_iload_4 i_X10_cupsWanted_34 ?_
        refine X_if_ge i_X10_cupsWanted_36 (tgt := 82) rfl ⟨by omega, by omega⟩ (fun h36 => by exfalso; omega) (fun h36 => ?_)
        refine Y_aload_0 i_X10_cupsWanted_39 ?_
        refine Y_iload_5 i_X10_cupsWanted_40 ?_
        refine Y_putI i_X10_cupsWanted_42 f_X10_58 rfl t_7_8 (zp0 _ _ _ _ _ _) ?_
        rw [zwr_w]
        refine Y_iload_5 i_X10_cupsWanted_45 ?_
        refine Y_aload_0 i_X10_cupsWanted_47 ?_
        refine X_iconst i_X10_cupsWanted_48 ?_
        refine Y_callV (k' := kX10_manyIn) i_X10_cupsWanted_49 l_X10_101 m_X10_manyIn (c_X10_manyIn (zs_self _ _ _) hB (zR_lit rfl)) rfl rfl rfl rfl rfl ?_
        rw [hm9]
        refine X_icmp_lt i_X10_cupsWanted_52 (tgt := 72) rfl ⟨by omega, by omega⟩ ⟨by omega, by omega⟩ (fun h52 => ?_) (fun h52 => ?_)
        · refine X_bipush i_X10_cupsWanted_72 (by decide +kernel) ?_
          refine Y_istore_4 i_X10_cupsWanted_74 rfl rfl ?_
          refine Y_iinc_5 i_X10_cupsWanted_76 rfl rfl ?_
          refine X_goto i_X10_cupsWanted_79 (tgt := 27) rfl ?_
          exact X_eq (ih (j + 1) _ T R (by omega) (fun q hq => by
            by_cases e : q = j
            · subst e; unfold sFq; exact decide_eq_false (by omega)
            · exact hno q (by omega)) hT hR) (by simp) rfl rfl
        · refine Y_aload_0 i_X10_cupsWanted_55 ?_
          refine Y_aload_0 i_X10_cupsWanted_56 ?_
          refine Y_callV (k' := kX10_everybody) i_X10_cupsWanted_57 l_X10_228 m_X10_everybody (c_X10_everybody (zs_self _ _ _) hB) rfl rfl rfl rfl rfl ?_
          refine Y_callVq (k' := kX10_goneBy) i_X10_cupsWanted_60 l_X10_222 m_X10_goneBy (c_X10_goneBy hB hT) rfl rfl rfl rfl rfl ?_
          intro r9 M9 hr9
          obtain ⟨rfl, S1, K1, hS1, hk1, rfl⟩ := hr9
          refine X_tl ?_
          rw [hgb]
          refine Y_iload_1 i_X10_cupsWanted_63 ?_
          refine X_icmp_gt i_X10_cupsWanted_64 (tgt := 72) rfl ⟨by omega, by omega⟩ ⟨by omega, by omega⟩ (fun h64 => ?_) (fun h64 => ?_)
          · refine X_bipush i_X10_cupsWanted_72 (by decide +kernel) ?_
            refine Y_istore_4 i_X10_cupsWanted_74 rfl rfl ?_
            refine Y_iinc_5 i_X10_cupsWanted_76 rfl rfl ?_
            refine X_goto i_X10_cupsWanted_79 (tgt := 27) rfl ?_
            exact X_eq (ih (j + 1) _ S1 K1 (by omega) (fun q hq => by
              by_cases e : q = j
              · subst e; unfold sFq; exact decide_eq_false (by omega)
              · exact hno q (by omega)) hS1 (hR.tr hk1.mo)) (by simp) rfl rfl
          · refine Y_iload_5 i_X10_cupsWanted_67 ?_
            refine X_goto i_X10_cupsWanted_69 (tgt := 74) rfl ?_
            refine Y_istore_4 i_X10_cupsWanted_74 rfl rfl ?_
            refine Y_iinc_5 i_X10_cupsWanted_76 rfl rfl ?_
            refine X_goto i_X10_cupsWanted_79 (tgt := 27) rfl ?_
            exact X_eq (out (j + 1) _ _ S1 K1 (by omega) (by omega) (by omega) hS1 (hR.tr hk1.mo) (sFc_hit hno (by unfold sFq; exact decide_eq_true ⟨by omega, by omega⟩) (by omega))) (by simp) rfl rfl
    refine X_mm (M' := (zs (zs (zs M 14 S) 13 K) 3 (zwr (N 0) 6 1 (N 0 6 1)))) (by rw [zwr_id]) ?_
    exact loop 5 0 _ S K (by omega) (fun q h => absurd h (by omega)) hS zKe.rf
  · refine Y_aload_0 i_X10_cupsWanted_9 ?_
    refine Y_iload_2 i_X10_cupsWanted_10 ?_
    refine Y_callV (k' := kX10_no) i_X10_cupsWanted_11 l_X10_75 m_X10_no (c_X10_no (by omega) (by omega)) rfl rfl rfl rfl rfl ?_
    refine X_iret i_X10_cupsWanted_14 rfl ?_
    exact zay1 (by unfold w_cupsWanted; (try rw [sFb2_e]); repeat (first | omega | split)) (by omega) hS
def sVa (f : Nat → Int) (j : Nat) : Int := if j = 0 then 0 else -sS 100 f j
def sVb (f : Nat → Int) (c : Int) (j : Nat) : Int := if j = 0 then 0 else sLm f j - c
theorem sVa_s (f : Nat → Int) (j : Nat) : sVa f (j + 1) = -sS 100 f (j + 1) := by unfold sVa; rw [if_neg (by omega)]
theorem sVb_s (f : Nat → Int) (c : Int) (j : Nat) : sVb f c (j + 1) = sLm f (j + 1) - c := by unfold sVb; rw [if_neg (by omega)]
theorem sVa_1 {f : Nat → Int} {j : Nat} (hf : f 0 ≤ 100) (h : j = 0 ∨ sVa f j < -f j) : sW 100 f 0 (j + 1) = j ∧ sVa f (j + 1) = -f j := by
  rw [sVa_s]
  simp only [sW, sS]
  by_cases e : j = 0
  · subst e
    by_cases z : f 0 < sS 100 f 0
    · rw [if_pos z, if_pos z]; exact ⟨rfl, rfl⟩
    · rw [if_neg z, if_neg z]
      have e0 : sS 100 f 0 = 100 := rfl
      exact ⟨rfl, by omega⟩
  · rcases h with h | h
    · exact absurd h e
    · unfold sVa at h
      rw [if_neg e] at h
      rw [if_pos (by omega), if_pos (by omega)]; exact ⟨rfl, rfl⟩
theorem sVa_0 {f : Nat → Int} {j : Nat} (e : j ≠ 0) (h : ¬ sVa f j < -f j) : sW 100 f 0 (j + 1) = sW 100 f 0 j ∧ sVa f (j + 1) = sVa f j := by
  rw [sVa_s]
  unfold sVa at h ⊢
  rw [if_neg e] at h ⊢
  simp only [sW, sS]
  rw [if_neg (by omega), if_neg (by omega)]; exact ⟨rfl, rfl⟩
theorem sVb_1 {f : Nat → Int} {c : Int} {j : Nat} (hf : 0 ≤ f 0) (h : j = 0 ∨ sVb f c j < f j - c) : sLz f (j + 1) = j ∧ sVb f c (j + 1) = f j - c := by
  rw [sVb_s]
  simp only [sLz, sLm]
  have e9 : sLm f j < f j := by
    by_cases e : j = 0
    · subst e; show -9 < f 0; omega
    · rcases h with h | h
      · exact absurd h e
      · unfold sVb at h; rw [if_neg e] at h; omega
  rw [if_pos e9, if_pos e9]; exact ⟨rfl, rfl⟩
theorem sVb_0 {f : Nat → Int} {c : Int} {j : Nat} (e : j ≠ 0) (h : ¬ sVb f c j < f j - c) : sLz f (j + 1) = sLz f j ∧ sVb f c (j + 1) = sVb f c j := by
  rw [sVb_s]
  unfold sVb at h ⊢
  rw [if_neg e] at h ⊢
  simp only [sLz, sLm]
  rw [if_neg (by omega), if_neg (by omega)]; exact ⟨rfl, rfl⟩
set_option maxRecDepth 100000 in
theorem c_X10_bestRule {M N : zMem} {S K : zAft} (hA : zOk 999 (N 0)) (hS : zSv S) {w : Int} (h_w : zR w) : zCt kX10_bestRule 6 [.ref 38, .int (zii w)] ((zs (zs (zs M 14 S) 13 K) 3 (N 0))) (zAy (w_bestRule N w) (.int (zii (w_bestRule N w))) (.int (zii (a_bestRule N w))) (zs (zs (zs M 14 S) 13 K) 3 (N 0)) (zs (zs (zs M 14 S) 13 K) 3 (N 0))) := by
  have h6 := hA.1
  unfold zH at h6
  have hG := sG_le hA.1
  have b_w := h_w.1
  have c_w := h_w.2
  refine zMet (by decide) (Nat.le_of_ble_eq_true rfl) ?_
  show zX kX10_bestRule 6 0 [some (.ref 38), some (.int (zii w)), none, none, none, none, none] [] _ _
  refine Y_iload_1 i_X10_bestRule_0 ?_
  refine X_iconst i_X10_bestRule_1 ?_
  refine X_iconst i_X10_bestRule_2 ?_
  refine Y_callS (k' := kX10_isIn) i_X10_bestRule_3 l_X10_86 m_X10_isIn (c_X10_isIn ⟨by omega, by omega⟩ (zR_lit rfl) (zR_lit rfl)) rfl rfl rfl rfl ?_
  refine Y_ifq_ne i_X10_bestRule_6 (tgt := 16) rfl  (fun h6 => ?_) (fun h6 => ?_)
  · refine Y_aload_0 i_X10_bestRule_16 ?_
    refine Y_getI i_X10_bestRule_17 f_X10_124 rfl (zg0 _ _ _ _ _) ?_
    refine Y_istore_2 i_X10_bestRule_20 rfl rfl ?_
    refine X_iconst i_X10_bestRule_21 ?_
    refine Y_istore_3 i_X10_bestRule_22 rfl rfl ?_
    refine X_iconst i_X10_bestRule_23 ?_
    refine Y_istore_4 i_X10_bestRule_24 rfl rfl ?_
    refine X_iconst i_X10_bestRule_26 ?_
    refine Y_istore_5 i_X10_bestRule_27 rfl rfl ?_
    by_cases hw : w = 0
    · have loop : ∀ (n : Nat) (j : Nat) (c : Int) (T R : zAft) (L : Option Value), j + n = 4 → zSv T → zKe 42 K R → zX kX10_bestRule 6 29 [some (.ref 38), some (.int (zii w)), some (.int (zii (N 0 6 2))), some (.int (zii (sW 100 (fun r : Nat => (sTg (zwr (N 0) 6 2 (r : Int)) (-1) : Int)) 0 j))), some (.int (zii (sVa (fun r : Nat => (sTg (zwr (N 0) 6 2 (r : Int)) (-1) : Int)) j))), some (.int (zii j)), L] [] (zs (zs (zs M 14 T) 13 R) 3 (zwr (N 0) 6 2 c)) (zAy (w_bestRule N w) (.int (zii (w_bestRule N w))) (.int (zii (a_bestRule N w))) (zs (zs (zs M 14 S) 13 K) 3 (N 0)) (zs (zs (zs M 14 S) 13 K) 3 (N 0))) := by
        intro n
        induction n with
        | zero =>
          intro j c T R L hg hT hR
          obtain rfl : j = 4 := by omega
          refine Y_iload_5 i_X10_bestRule_29 ?_
          refine X_iconst i_X10_bestRule_31 ?_
          refine X_icmp_ge i_X10_bestRule_32 (tgt := 93) rfl ⟨by omega, by omega⟩ ⟨by omega, by omega⟩ (fun h32 => ?_) (fun h32 => by exfalso; omega)
          refine Y_aload_0 i_X10_bestRule_93 ?_
          refine Y_iload_2 i_X10_bestRule_94 ?_
          refine Y_putI i_X10_bestRule_95 f_X10_124 rfl t_7_9 (zp0 _ _ _ _ _ _) ?_
          rw [zwr_w, zwr_id]
          refine Y_iload_3 i_X10_bestRule_98 ?_
          refine X_iret i_X10_bestRule_99 rfl ?_
          exact zay0 (by unfold w_bestRule; (try rw [sFb2_e]); repeat (first | omega | split)) (zvi (by unfold a_bestRule; rw [if_pos hw])) (zey_s hT hR)
        | succ n ih =>
          intro j c T R L hg hT hR
          have hB := zOk_6 hA (i := 2) (v := (j : Int)) (Or.inr ⟨rfl, by omega, by omega⟩)
          have hGB := sG_w (A := N 0) (r := 6) (i := 2) (v := (j : Int)) (Or.inr (by decide))
          have hgb := sGB_all (A := (zwr (N 0) 6 2 (j : Int))) (by omega) (by rw [hGB, zwr_i (by decide)]; exact hG.2)
          have hgl := sTg_le (zwr (N 0) 6 2 (j : Int)) (-1)
          have hq := sS_in (lim := 100) (f := (fun r : Nat => (sTg (zwr (N 0) 6 2 (r : Int)) (-1) : Int))) (fun n => by show (0 : Int) ≤ _; omega) (by omega) j
          have hva : -100 ≤ sVa (fun r : Nat => (sTg (zwr (N 0) 6 2 (r : Int)) (-1) : Int)) j ∧ sVa (fun r : Nat => (sTg (zwr (N 0) 6 2 (r : Int)) (-1) : Int)) j ≤ 0 := by unfold sVa; split <;> omega
          have hg0 := sTg_le (zwr (N 0) 6 2 ((0 : Nat) : Int)) (-1)
          refine Y_iload_5 i_X10_bestRule_29 ?_
          refine X_iconst i_X10_bestRule_31 ?_
          refine X_icmp_ge i_X10_bestRule_32 (tgt := 93) rfl ⟨by omega, by omega⟩ ⟨by omega, by omega⟩ (fun h32 => by exfalso; omega) (fun h32 => ?_)
          refine Y_aload_0 i_X10_bestRule_35 ?_
          refine Y_iload_5 i_X10_bestRule_36 ?_
          refine Y_putI i_X10_bestRule_38 f_X10_124 rfl t_7_9 (zp0 _ _ _ _ _ _) ?_
          rw [zwr_w]
          refine Y_iload_1 i_X10_bestRule_41 ?_
          refine Y_if_ne i_X10_bestRule_42 (tgt := 57) rfl ⟨by omega, by omega⟩ (fun h42 => by exfalso; omega) (fun h42 => ?_)
          refine Y_aload_0 i_X10_bestRule_45 ?_
          refine Y_aload_0 i_X10_bestRule_46 ?_
          refine Y_callV (k' := kX10_everybody) i_X10_bestRule_47 l_X10_228 m_X10_everybody (c_X10_everybody (zs_self _ _ _) hB) rfl rfl rfl rfl rfl ?_
          refine Y_callVq (k' := kX10_goneBy) i_X10_bestRule_50 l_X10_222 m_X10_goneBy (c_X10_goneBy hB hT) rfl rfl rfl rfl rfl ?_
          intro r9 M9 hr9
          obtain ⟨rfl, S1, K1, hS1, hk1, rfl⟩ := hr9
          refine X_tl ?_
          rw [hgb]
          refine X_ineg i_X10_bestRule_53 ?_
          refine X_goto i_X10_bestRule_54 (tgt := 63) rfl ?_
          refine Y_istore_6 i_X10_bestRule_63 rfl rfl ?_
          refine Y_iload_5 i_X10_bestRule_65 ?_
          refine X_if_le i_X10_bestRule_67 (tgt := 80) rfl ⟨by omega, by omega⟩ (fun h67 => ?_) (fun h67 => ?_)
          · refine Y_iload_5 i_X10_bestRule_80 ?_
            refine Y_istore_3 i_X10_bestRule_82 rfl rfl ?_
            refine Y_iload_6 i_X10_bestRule_83 ?_
            refine Y_istore_4 i_X10_bestRule_85 rfl rfl ?_
            refine Y_iinc_5 i_X10_bestRule_87 rfl rfl ?_
            refine X_goto i_X10_bestRule_90 (tgt := 29) rfl ?_
            have hx := sVa_1 (f := (fun r : Nat => (sTg (zwr (N 0) 6 2 (r : Int)) (-1) : Int))) (j := j) (by show ((sTg (zwr (N 0) 6 2 ((0 : Nat) : Int)) (-1) : Nat) : Int) ≤ 100; omega) (Or.inl (by omega))
            exact X_eq (ih (j + 1) _ S1 K1 _ (by omega) hS1 (hR.tr hk1.mo)) (by rw [hx.1, hx.2]; rfl) rfl rfl
          · refine Y_iload_6 i_X10_bestRule_70 ?_
            refine Y_iload_4 i_X10_bestRule_72 ?_
            refine X_icmp_gt i_X10_bestRule_74 (tgt := 80) rfl ⟨by omega, by omega⟩ ⟨by omega, by omega⟩ (fun h74 => ?_) (fun h74 => ?_)
            · refine Y_iload_5 i_X10_bestRule_80 ?_
              refine Y_istore_3 i_X10_bestRule_82 rfl rfl ?_
              refine Y_iload_6 i_X10_bestRule_83 ?_
              refine Y_istore_4 i_X10_bestRule_85 rfl rfl ?_
              refine Y_iinc_5 i_X10_bestRule_87 rfl rfl ?_
              refine X_goto i_X10_bestRule_90 (tgt := 29) rfl ?_
              have hx := sVa_1 (f := (fun r : Nat => (sTg (zwr (N 0) 6 2 (r : Int)) (-1) : Int))) (j := j) (by show ((sTg (zwr (N 0) 6 2 ((0 : Nat) : Int)) (-1) : Nat) : Int) ≤ 100; omega) (Or.inr h74)
              exact X_eq (ih (j + 1) _ S1 K1 _ (by omega) hS1 (hR.tr hk1.mo)) (by rw [hx.1, hx.2]; rfl) rfl rfl
            · refine X_goto i_X10_bestRule_77 (tgt := 87) rfl ?_
              refine Y_iinc_5 i_X10_bestRule_87 rfl rfl ?_
              refine X_goto i_X10_bestRule_90 (tgt := 29) rfl ?_
              have hx := sVa_0 (f := (fun r : Nat => (sTg (zwr (N 0) 6 2 (r : Int)) (-1) : Int))) (j := j) (by omega) h74
              exact X_eq (ih (j + 1) _ S1 K1 _ (by omega) hS1 (hR.tr hk1.mo)) (by rw [hx.1, hx.2]; rfl) rfl rfl
      refine X_mm (M' := (zs (zs (zs M 14 S) 13 K) 3 (zwr (N 0) 6 2 (N 0 6 2)))) (by rw [zwr_id]) ?_
      exact loop 4 0 _ S K _ (by omega) hS zKe.rf
    · have loop : ∀ (n : Nat) (j : Nat) (c : Int) (T R : zAft) (L : Option Value), j + n = 4 → zSv T → zKe 42 K R → zX kX10_bestRule 6 29 [some (.ref 38), some (.int (zii w)), some (.int (zii (N 0 6 2))), some (.int (zii (sLz (sMp (N 0)) j))), some (.int (zii (sVb (sMp (N 0)) (N 0 6 4) j))), some (.int (zii j)), L] [] (zs (zs (zs M 14 T) 13 R) 3 (zwr (N 0) 6 2 c)) (zAy (w_bestRule N w) (.int (zii (w_bestRule N w))) (.int (zii (a_bestRule N w))) (zs (zs (zs M 14 S) 13 K) 3 (N 0)) (zs (zs (zs M 14 S) 13 K) 3 (N 0))) := by
        intro n
        induction n with
        | zero =>
          intro j c T R L hg hT hR
          obtain rfl : j = 4 := by omega
          refine Y_iload_5 i_X10_bestRule_29 ?_
          refine X_iconst i_X10_bestRule_31 ?_
          refine X_icmp_ge i_X10_bestRule_32 (tgt := 93) rfl ⟨by omega, by omega⟩ ⟨by omega, by omega⟩ (fun h32 => ?_) (fun h32 => by exfalso; omega)
          refine Y_aload_0 i_X10_bestRule_93 ?_
          refine Y_iload_2 i_X10_bestRule_94 ?_
          refine Y_putI i_X10_bestRule_95 f_X10_124 rfl t_7_9 (zp0 _ _ _ _ _ _) ?_
          rw [zwr_w, zwr_id]
          refine Y_iload_3 i_X10_bestRule_98 ?_
          refine X_iret i_X10_bestRule_99 rfl ?_
          exact zay0 (by unfold w_bestRule; (try rw [sFb2_e]); repeat (first | omega | split)) (zvi (by unfold a_bestRule; rw [if_neg hw])) (zey_s hT hR)
        | succ n ih =>
          intro j c T R L hg hT hR
          have hB := zOk_6 hA (i := 2) (v := (j : Int)) (Or.inr ⟨rfl, by omega, by omega⟩)
          have hmp := sMp_in hA j
          have hm0 := sMp_in hA 0
          have hlm := sLm_in2 (f := sMp (N 0)) (c := 6588) (by omega) (sMp_in hA) j
          have hva : -7000 ≤ sVb (sMp (N 0)) (N 0 6 4) j ∧ sVb (sMp (N 0)) (N 0 6 4) j ≤ 7000 := by unfold sVb; split <;> omega
          have hmq : sMp (N 0) j = sRun (zwr (N 0) 6 2 (j : Int)) 99 6 4 := by unfold sMp; rw [if_pos (by omega)]
          have h64 : (zwr (N 0) 6 2 (j : Int)) 6 4 = N 0 6 4 := zwr_i (by decide)
          refine Y_iload_5 i_X10_bestRule_29 ?_
          refine X_iconst i_X10_bestRule_31 ?_
          refine X_icmp_ge i_X10_bestRule_32 (tgt := 93) rfl ⟨by omega, by omega⟩ ⟨by omega, by omega⟩ (fun h32 => by exfalso; omega) (fun h32 => ?_)
          refine Y_aload_0 i_X10_bestRule_35 ?_
          refine Y_iload_5 i_X10_bestRule_36 ?_
          refine Y_putI i_X10_bestRule_38 f_X10_124 rfl t_7_9 (zp0 _ _ _ _ _ _) ?_
          rw [zwr_w]
          refine Y_iload_1 i_X10_bestRule_41 ?_
          refine Y_if_ne i_X10_bestRule_42 (tgt := 57) rfl ⟨by omega, by omega⟩ (fun h42 => ?_) (fun h42 => by exfalso; omega)
          refine Y_aload_0 i_X10_bestRule_57 ?_
          refine X_bipush i_X10_bestRule_58 (by decide +kernel) ?_
          refine Y_callVq (k' := kX10_pouredIn) i_X10_bestRule_60 l_X10_234 m_X10_pouredIn (c_X10_pouredIn (t := 99) hB hT (by omega)) rfl rfl rfl rfl rfl ?_
          intro r9 M9 hr9
          obtain ⟨rfl, S1, K1, hS1, hk1, rfl⟩ := hr9
          refine X_tl ?_
          rw [← hmq, h64]
          refine Y_istore_6 i_X10_bestRule_63 rfl rfl ?_
          refine Y_iload_5 i_X10_bestRule_65 ?_
          refine X_if_le i_X10_bestRule_67 (tgt := 80) rfl ⟨by omega, by omega⟩ (fun h67 => ?_) (fun h67 => ?_)
          · refine Y_iload_5 i_X10_bestRule_80 ?_
            refine Y_istore_3 i_X10_bestRule_82 rfl rfl ?_
            refine Y_iload_6 i_X10_bestRule_83 ?_
            refine Y_istore_4 i_X10_bestRule_85 rfl rfl ?_
            refine Y_iinc_5 i_X10_bestRule_87 rfl rfl ?_
            refine X_goto i_X10_bestRule_90 (tgt := 29) rfl ?_
            have hx := sVb_1 (f := sMp (N 0)) (c := N 0 6 4) (j := j) hm0.1 (Or.inl (by omega))
            exact X_eq (ih (j + 1) _ S1 K1 _ (by omega) hS1 (hR.tr hk1.mo)) (by rw [hx.1, hx.2]; rfl) rfl rfl
          · refine Y_iload_6 i_X10_bestRule_70 ?_
            refine Y_iload_4 i_X10_bestRule_72 ?_
            refine X_icmp_gt i_X10_bestRule_74 (tgt := 80) rfl ⟨by omega, by omega⟩ ⟨by omega, by omega⟩ (fun h74 => ?_) (fun h74 => ?_)
            · refine Y_iload_5 i_X10_bestRule_80 ?_
              refine Y_istore_3 i_X10_bestRule_82 rfl rfl ?_
              refine Y_iload_6 i_X10_bestRule_83 ?_
              refine Y_istore_4 i_X10_bestRule_85 rfl rfl ?_
              refine Y_iinc_5 i_X10_bestRule_87 rfl rfl ?_
              refine X_goto i_X10_bestRule_90 (tgt := 29) rfl ?_
              have hx := sVb_1 (f := sMp (N 0)) (c := N 0 6 4) (j := j) hm0.1 (Or.inr h74)
              exact X_eq (ih (j + 1) _ S1 K1 _ (by omega) hS1 (hR.tr hk1.mo)) (by rw [hx.1, hx.2]; rfl) rfl rfl
            · refine X_goto i_X10_bestRule_77 (tgt := 87) rfl ?_
              refine Y_iinc_5 i_X10_bestRule_87 rfl rfl ?_
              refine X_goto i_X10_bestRule_90 (tgt := 29) rfl ?_
              have hx := sVb_0 (f := sMp (N 0)) (c := N 0 6 4) (j := j) (by omega) h74
              exact X_eq (ih (j + 1) _ S1 K1 _ (by omega) hS1 (hR.tr hk1.mo)) (by rw [hx.1, hx.2]; rfl) rfl rfl
      refine X_mm (M' := (zs (zs (zs M 14 S) 13 K) 3 (zwr (N 0) 6 2 (N 0 6 2)))) (by rw [zwr_id]) ?_
      exact loop 4 0 _ S K _ (by omega) hS zKe.rf
  · refine Y_aload_0 i_X10_bestRule_9 ?_
    refine X_bipush i_X10_bestRule_10 (by decide +kernel) ?_
    refine Y_callV (k' := kX10_no) i_X10_bestRule_12 l_X10_75 m_X10_no (c_X10_no (by omega) (by omega)) rfl rfl rfl rfl rfl ?_
    refine X_iret i_X10_bestRule_15 rfl ?_
    exact zay1 (by unfold w_bestRule; (try rw [sFb2_e]); repeat (first | omega | split)) (by omega) hS
set_option maxRecDepth 100000 in
theorem c_X10_rising {M N : zMem} {S K : zAft} (hA : zOk 999 (N 0)) (hS : zSv S) {w : Int} (h_w : zR w) : zCt kX10_rising 6 [.ref 38, .int (zii w)] ((zs (zs (zs M 14 S) 13 K) 3 (N 0))) (zAy (w_rising N w) (.int (zii (w_rising N w))) (.int (zii (a_rising N w))) (zs (zs (zs M 14 S) 13 K) 3 (N 0)) (zs (zs (zs M 14 S) 13 K) 3 (N 0))) := by
  have h6 := hA.1
  unfold zH at h6
  have hG := sG_le hA.1
  have b_w := h_w.1
  have c_w := h_w.2
  have hZ := sSet_n (N 0) 0 (sG (N 0)) hG.1
  have hZ64 := sSn_64 (N 0) 0 (n := sG (N 0)) hG.1
  refine zMet (by decide) (Nat.le_of_ble_eq_true rfl) ?_
  show zX kX10_rising 6 0 [some (.ref 38), some (.int (zii w)), none, none, none, none, none] [] _ _
  refine Y_iload_1 i_X10_rising_0 ?_
  refine X_iconst i_X10_rising_1 ?_
  refine X_iconst i_X10_rising_2 ?_
  refine Y_callS (k' := kX10_isIn) i_X10_rising_3 l_X10_86 m_X10_isIn (c_X10_isIn ⟨by omega, by omega⟩ (zR_lit rfl) (zR_lit rfl)) rfl rfl rfl rfl ?_
  refine Y_ifq_ne i_X10_rising_6 (tgt := 16) rfl  (fun h6 => ?_) (fun h6 => ?_)
  · refine Y_aload_0 i_X10_rising_16 ?_
    refine Y_callV (k' := kX10_whoSit) i_X10_rising_17 l_X10_237 m_X10_whoSit (c_X10_whoSit (zs_self _ _ _) hA) rfl rfl rfl rfl rfl ?_
    rw [hZ]
    refine Y_istore_2 i_X10_rising_20 rfl rfl ?_
    refine X_bipush i_X10_rising_21 (by decide +kernel) ?_
    refine Y_istore_3 i_X10_rising_23 rfl rfl ?_
    refine X_bipush i_X10_rising_24 (by decide +kernel) ?_
    refine Y_istore_4 i_X10_rising_26 rfl rfl ?_
    refine X_iconst i_X10_rising_28 ?_
    refine Y_istore_5 i_X10_rising_29 rfl rfl ?_
    have loop : ∀ (n : Nat) (j : Nat) (T R : zAft) (L : Option Value), j + n = (sSn (N 0) 0 (sG (N 0))) + 1 → zSv T → zKe 42 K R → zX kX10_rising 6 31 [some (.ref 38), some (.int (zii w)), some (.int (zii ((sSn (N 0) 0 (sG (N 0))) : Nat))), some (.int (zii (sW 100 (sRg (N 0)) (-9) j))), some (.int (zii (sS 100 (sRg (N 0)) j))), some (.int (zii j)), L] [] (zs (zs (zs M 14 T) 13 R) 3 (N 0)) (zAy (w_rising N w) (.int (zii (w_rising N w))) (.int (zii (a_rising N w))) (zs (zs (zs M 14 S) 13 K) 3 (N 0)) (zs (zs (zs M 14 S) 13 K) 3 (N 0))) := by
      intro n
      induction n with
      | zero =>
        intro j T R L hg hT hR
        have hq := sS_in (lim := 100) (f := (sRg (N 0))) (fun n => sRg_in _ n) (by omega) j
        obtain rfl : j = (sSn (N 0) 0 (sG (N 0))) + 1 := by omega
        have hsk := sS_skip (lim := 100) (f := (sRg (N 0))) ((sSn (N 0) 0 (sG (N 0))) + 1) 64 (by omega) (fun k hk hk2 => sRg_out (by omega) hk2 (by omega))
        refine Y_iload_5 i_X10_rising_31 ?_
        refine Y_iload_2 i_X10_rising_33 ?_
        refine X_icmp_gt i_X10_rising_34 (tgt := 84) rfl ⟨by omega, by omega⟩ ⟨by omega, by omega⟩ (fun h34 => ?_) (fun h34 => by exfalso; omega)
        refine Y_iload_1 i_X10_rising_84 ?_
        refine Y_if_ne i_X10_rising_85 (tgt := 92) rfl ⟨by omega, by omega⟩ (fun h85 => ?_) (fun h85 => ?_)
        · refine Y_iload_4 i_X10_rising_92 ?_
          refine Y_callS (k' := kX10_orNone) i_X10_rising_94 l_X10_225 m_X10_orNone (c_X10_orNone ⟨by omega, by omega⟩) rfl rfl rfl rfl ?_
          refine X_iret i_X10_rising_97 rfl ?_
          exact zay0 (by unfold w_rising; (try rw [sFb2_e]); repeat (first | omega | split)) (zvi (by unfold a_rising; rw [if_neg h85, hsk.1])) (zey_s hT hR)
        · refine Y_iload_3 i_X10_rising_88 ?_
          refine X_goto i_X10_rising_89 (tgt := 97) rfl ?_
          refine X_iret i_X10_rising_97 rfl ?_
          exact zay0 (by unfold w_rising; (try rw [sFb2_e]); repeat (first | omega | split)) (zvi (by unfold a_rising; rw [if_pos h85, hsk.2])) (zey_s hT hR)
      | succ n ih =>
        intro j T R L hg hT hR
        have hq := sS_in (lim := 100) (f := (sRg (N 0))) (fun n => sRg_in _ n) (by omega) j
        have hGB := sRi_G (N 0) (j : Int) (sG (N 0))
        have hgb := sGB_all (A := (sRi (N 0) (j : Int) (sG (N 0)))) (by omega) (by rw [hGB, sRi_6]; exact hG.2)
        have hgl := sTg_le (sRi (N 0) (j : Int) (sG (N 0))) (-1)
        rw [show (sRi (N 0) (j : Int) (sG (N 0))) 6 0 = N 0 6 0 by rw [sRi_6]] at hgb
        have hzn := zsub_n j (sSn (N 0) 0 (sG (N 0))) (by omega) hZ64
        have hza := zand_in (a := (j : Int)) (zxor ((sSn (N 0) 0 (sG (N 0))) : Int) (-1)) (by omega) (by omega)
        refine Y_iload_5 i_X10_rising_31 ?_
        refine Y_iload_2 i_X10_rising_33 ?_
        refine X_icmp_gt i_X10_rising_34 (tgt := 84) rfl ⟨by omega, by omega⟩ ⟨by omega, by omega⟩ (fun h34 => by exfalso; omega) (fun h34 => ?_)
        refine Y_iload_5 i_X10_rising_37 ?_
        refine Y_iload_2 i_X10_rising_39 ?_
        refine X_iconst i_X10_rising_40 ?_
        refine X_ixor i_X10_rising_41 ?_
        refine X_iand i_X10_rising_42 ?_
        refine X_if_eq i_X10_rising_43 (tgt := 49) rfl ⟨by omega, by omega⟩ (fun h43 => ?_) (fun h43 => ?_)
        · have hrg : sRg (N 0) j = (sTg (sRi (N 0) (j : Int) (sG (N 0))) (-1) : Int) := by unfold sRg; rw [hZ, if_pos h43]
          refine Y_aload_0 i_X10_rising_49 ?_
          refine Y_iload_5 i_X10_rising_50 ?_
          refine Y_aload_0 i_X10_rising_52 ?_
          refine Y_callV (k' := kX10_everybody) i_X10_rising_53 l_X10_228 m_X10_everybody (c_X10_everybody (zs_self _ _ _) hA) rfl rfl rfl rfl rfl ?_
          refine Y_callVq (k' := kX10_goneRising) i_X10_rising_56 l_X10_240 m_X10_goneRising (c_X10_goneRising hA hT ((zSit_of (by omega) (by omega) (hzn.mp h43)).bit (by omega))) rfl rfl rfl rfl rfl ?_
          intro r9 M9 hr9
          obtain ⟨rfl, S1, K1, hS1, hk1, rfl⟩ := hr9
          refine X_tl ?_
          rw [hgb, ← hrg]
          refine Y_istore_6 i_X10_rising_59 rfl rfl ?_
          refine Y_iload_6 i_X10_rising_61 ?_
          refine Y_iload_4 i_X10_rising_63 ?_
          refine X_icmp_lt i_X10_rising_65 (tgt := 71) rfl ⟨by omega, by omega⟩ ⟨by omega, by omega⟩ (fun h65 => ?_) (fun h65 => ?_)
          · refine Y_iload_5 i_X10_rising_71 ?_
            refine Y_istore_3 i_X10_rising_73 rfl rfl ?_
            refine Y_iload_6 i_X10_rising_74 ?_
            refine Y_istore_4 i_X10_rising_76 rfl rfl ?_
            refine Y_iinc_5 i_X10_rising_78 rfl rfl ?_
            refine X_goto i_X10_rising_81 (tgt := 31) rfl ?_
            exact X_eq (ih (j + 1) S1 K1 _ (by omega) hS1 (hR.tr hk1)) (by simp only [sS, sW]; rw [if_pos h65, if_pos h65]; rfl) rfl rfl
          · refine X_goto i_X10_rising_68 (tgt := 78) rfl ?_
            refine Y_iinc_5 i_X10_rising_78 rfl rfl ?_
            refine X_goto i_X10_rising_81 (tgt := 31) rfl ?_
            exact X_eq (ih (j + 1) S1 K1 _ (by omega) hS1 (hR.tr hk1)) (by simp only [sS, sW]; rw [if_neg h65, if_neg h65]; rfl) rfl rfl
        · refine X_goto i_X10_rising_46 (tgt := 78) rfl ?_
          refine Y_iinc_5 i_X10_rising_78 rfl rfl ?_
          refine X_goto i_X10_rising_81 (tgt := 31) rfl ?_
          have hno : ¬ sRg (N 0) j < sS 100 (sRg (N 0)) j := by unfold sRg at hq ⊢; rw [hZ, if_neg h43]; have := hq.2; rw [hZ] at this; omega
          exact X_eq (ih (j + 1) T R _ (by omega) hT hR) (by simp only [sS, sW]; rw [if_neg hno, if_neg hno]; rfl) rfl rfl
    exact loop ((sSn (N 0) 0 (sG (N 0))) + 1) 0 S K _ (by omega) hS zKe.rf
  · refine Y_aload_0 i_X10_rising_9 ?_
    refine X_bipush i_X10_rising_10 (by decide +kernel) ?_
    refine Y_callV (k' := kX10_no) i_X10_rising_12 l_X10_75 m_X10_no (c_X10_no (by omega) (by omega)) rfl rfl rfl rfl rfl ?_
    refine X_iret i_X10_rising_15 rfl ?_
    exact zay1 (by unfold w_rising; (try rw [sFb2_e]); repeat (first | omega | split)) (by omega) hS
theorem sRf_iff {A : zAft} {s t : Nat} : ∀ n : Nat, sRf A s t n = true ↔ ∀ k : Nat, k < n → t.testBit k = true → sF A s k ≤ sF A ((s ^^^ 2 ^ k : Nat) : Int) k := by
  intro n
  induction n with
  | zero => exact ⟨fun _ k h => absurd h (by omega), fun _ => rfl⟩
  | succ n ih =>
    simp only [sRf, Bool.and_eq_true, Bool.or_eq_true, Bool.not_eq_true', decide_eq_true_eq, ih]
    refine ⟨fun h k hk hb => ?_, fun h => ⟨fun k hk => h k (by omega), ?_⟩⟩
    · by_cases e : k = n
      · subst e; rcases h.2 with h2 | h2
        · rw [hb] at h2; exact absurd h2 (by decide)
        · exact h2
      · exact h.1 k (by omega) hb
    · cases hb : t.testBit n with
      | false => exact Or.inl rfl
      | true => exact Or.inr (h n (by omega) hb)
theorem sPs_m : ∀ p x y : Nat, p < 4 → x < 6 → y < 6 → zor (if p / 2 = 1 then zshl 1 (x : Int) else 0) (if p % 2 = 1 then zshl 1 (y : Int) else 0) = (sPs p x y : Int) := by
  have h : ∀ p : Fin 4, ∀ x : Fin 6, ∀ y : Fin 6, zor (if p.val / 2 = 1 then zshl 1 ((x.val : Nat) : Int) else 0) (if p.val % 2 = 1 then zshl 1 ((y.val : Nat) : Int) else 0) = (sPs p.val x.val y.val : Int) := by decide +kernel
  exact fun p x y hp hx hy => h ⟨p, hp⟩ ⟨x, hx⟩ ⟨y, hy⟩
theorem sPs_tb : ∀ p x y g : Nat, p < 4 → x < 6 → y < 6 → g < 6 → (sPs p x y).testBit g = true → g = x ∨ g = y := by
  have h : ∀ p : Fin 4, ∀ x : Fin 6, ∀ y : Fin 6, ∀ g : Fin 6, (sPs p.val x.val y.val).testBit g.val = true → g.val = x.val ∨ g.val = y.val := by decide +kernel
  exact fun p x y g hp hx hy hg => h ⟨p, hp⟩ ⟨x, hx⟩ ⟨y, hy⟩ ⟨g, hg⟩
theorem sMk_tb : ∀ x y g : Nat, x < 6 → y < 6 → g < 6 → ((2 ^ x ||| 2 ^ y).testBit g = true ↔ g = x ∨ g = y) := by
  have h : ∀ x : Fin 6, ∀ y : Fin 6, ∀ g : Fin 6, ((2 ^ x.val ||| 2 ^ y.val).testBit g.val = true ↔ g.val = x.val ∨ g.val = y.val) := by decide +kernel
  exact fun x y g hx hy hg => h ⟨x, hx⟩ ⟨y, hy⟩ ⟨g, hg⟩
theorem sBl_iff {A : zAft} {x y p : Nat} (hG : sG A ≤ 6) (hx : x < sG A) (hy : y < sG A) : sBl A x y p = true ↔ sF A (sPs p x y) x ≤ sF A ((sPs p x y ^^^ 2 ^ x : Nat) : Int) x ∧ sF A (sPs p x y) y ≤ sF A ((sPs p x y ^^^ 2 ^ y : Nat) : Int) y := by
  unfold sBl
  rw [sRf_iff]
  refine ⟨fun h => ⟨h x hx ((sMk_tb x y x (by omega) (by omega) (by omega)).mpr (Or.inl rfl)), h y hy ((sMk_tb x y y (by omega) (by omega) (by omega)).mpr (Or.inr rfl))⟩, fun h k hk hb => ?_⟩
  rcases (sMk_tb x y k (by omega) (by omega) (by omega)).mp hb with e | e
  · subst e; exact h.1
  · subst e; exact h.2
set_option maxRecDepth 100000 in
theorem c_X10_two {M N : zMem} {S K : zAft} (hA : zOk 999 (N 0)) (hS : zSv S) {x : Int} (h_x : zR x) {y : Int} (h_y : zR y) : zCt kX10_two 7 [.ref 38, .int (zii x), .int (zii y)] ((zs (zs (zs M 14 S) 13 K) 3 (N 0))) (zAy (w_two N x y) (.int (zii (w_two N x y))) (.int (zii (a_two N x y))) (zs (zs (zs M 14 S) 13 K) 3 (N 0)) (zs (zs (zs M 14 S) 13 K) 3 (N 0))) := by
  have h6 := hA.1
  unfold zH at h6
  have hG := sG_le hA.1
  have b_x := h_x.1
  have c_x := h_x.2
  have b_y := h_y.1
  have c_y := h_y.2
  refine zMet (by decide) (Nat.le_of_ble_eq_true rfl) ?_
  show zX kX10_two 7 0 [some (.ref 38), some (.int (zii x)), some (.int (zii y)), none, none, none] [] _ _
  refine Y_aload_0 i_X10_two_0 ?_
  refine Y_iload_1 i_X10_two_1 ?_
  refine Y_callV (k' := kX10_isGuest) i_X10_two_2 l_X10_111 m_X10_isGuest (c_X10_isGuest (zs_self _ _ _) hA ⟨by omega, by omega⟩) rfl rfl rfl rfl rfl ?_
  refine Y_ifq_eq i_X10_two_5 (tgt := 21) rfl  (fun h5 => ?_) (fun h5 => ?_)
  · refine X_iconst i_X10_two_21 ?_
    refine X_goto i_X10_two_22 (tgt := 49) rfl ?_
    refine Y_istore_3 i_X10_two_49 rfl rfl ?_
    refine Y_iload_3 i_X10_two_50 ?_
    refine X_if_eq i_X10_two_51 (tgt := 60) rfl ⟨by omega, by omega⟩ (fun h51 => by exfalso; omega) (fun h51 => ?_)
    refine Y_aload_0 i_X10_two_54 ?_
    refine Y_iload_3 i_X10_two_55 ?_
    refine Y_callV (k' := kX10_no) i_X10_two_56 l_X10_75 m_X10_no (c_X10_no (by omega) (by omega)) rfl rfl rfl rfl rfl ?_
    refine X_iret i_X10_two_59 rfl ?_
    exact zay1 (by unfold w_two; (try rw [sFb2_e]); repeat (first | omega | split)) (by omega) hS
  · refine Y_aload_0 i_X10_two_8 ?_
    refine Y_iload_2 i_X10_two_9 ?_
    refine Y_callV (k' := kX10_isGuest) i_X10_two_10 l_X10_111 m_X10_isGuest (c_X10_isGuest (zs_self _ _ _) hA ⟨by omega, by omega⟩) rfl rfl rfl rfl rfl ?_
    refine Y_ifq_eq i_X10_two_13 (tgt := 21) rfl  (fun h13 => ?_) (fun h13 => ?_)
    · refine X_iconst i_X10_two_21 ?_
      refine X_goto i_X10_two_22 (tgt := 49) rfl ?_
      refine Y_istore_3 i_X10_two_49 rfl rfl ?_
      refine Y_iload_3 i_X10_two_50 ?_
      refine X_if_eq i_X10_two_51 (tgt := 60) rfl ⟨by omega, by omega⟩ (fun h51 => by exfalso; omega) (fun h51 => ?_)
      refine Y_aload_0 i_X10_two_54 ?_
      refine Y_iload_3 i_X10_two_55 ?_
      refine Y_callV (k' := kX10_no) i_X10_two_56 l_X10_75 m_X10_no (c_X10_no (by omega) (by omega)) rfl rfl rfl rfl rfl ?_
      refine X_iret i_X10_two_59 rfl ?_
      exact zay1 (by unfold w_two; (try rw [sFb2_e]); repeat (first | omega | split)) (by omega) hS
    · refine Y_iload_1 i_X10_two_16 ?_
      refine Y_iload_2 i_X10_two_17 ?_
      refine Y_icmp_ne i_X10_two_18 (tgt := 25) rfl ⟨by omega, by omega⟩ ⟨by omega, by omega⟩ (fun h18 => ?_) (fun h18 => ?_)
      · obtain ⟨x9, rfl⟩ : ∃ t : Nat, x = t := ⟨x.toNat, by omega⟩
        obtain ⟨y9, rfl⟩ : ∃ t : Nat, y = t := ⟨y.toNat, by omega⟩
        have hgx := hA.2 x9 (by omega) (by omega)
        unfold zG at hgx
        have hgy := hA.2 y9 (by omega) (by omega)
        unfold zG at hgy
        refine Y_aload_0 i_X10_two_25 ?_
        refine X_getR i_X10_two_26 f_X10_22 rfl ?_
        refine Y_iload_1 i_X10_two_29 ?_
        refine Y_iald i_X10_two_30 rfl ⟨by omega, by omega⟩ rfl (zg0 _ _ _ _ _) ?_
        refine Y_if_ne i_X10_two_31 (tgt := 43) rfl ⟨by omega, by omega⟩ (fun h31 => ?_) (fun h31 => ?_)
        · refine X_bipush i_X10_two_43 (by decide +kernel) ?_
          refine X_goto i_X10_two_45 (tgt := 49) rfl ?_
          refine Y_istore_3 i_X10_two_49 rfl rfl ?_
          refine Y_iload_3 i_X10_two_50 ?_
          refine X_if_eq i_X10_two_51 (tgt := 60) rfl ⟨by omega, by omega⟩ (fun h51 => by exfalso; omega) (fun h51 => ?_)
          refine Y_aload_0 i_X10_two_54 ?_
          refine Y_iload_3 i_X10_two_55 ?_
          refine Y_callV (k' := kX10_no) i_X10_two_56 l_X10_75 m_X10_no (c_X10_no (by omega) (by omega)) rfl rfl rfl rfl rfl ?_
          refine X_iret i_X10_two_59 rfl ?_
          exact zay1 (by unfold w_two; (try rw [sFb2_e]); repeat (first | omega | split)) (by omega) hS
        · refine Y_aload_0 i_X10_two_34 ?_
          refine X_getR i_X10_two_35 f_X10_22 rfl ?_
          refine Y_iload_2 i_X10_two_38 ?_
          refine Y_iald i_X10_two_39 rfl ⟨by omega, by omega⟩ rfl (zg0 _ _ _ _ _) ?_
          refine X_if_eq i_X10_two_40 (tgt := 48) rfl ⟨by omega, by omega⟩ (fun h40 => ?_) (fun h40 => ?_)
          · refine X_iconst i_X10_two_48 ?_
            refine Y_istore_3 i_X10_two_49 rfl rfl ?_
            refine Y_iload_3 i_X10_two_50 ?_
            refine X_if_eq i_X10_two_51 (tgt := 60) rfl ⟨by omega, by omega⟩ (fun h51 => ?_) (fun h51 => by exfalso; omega)
            refine X_iconst i_X10_two_60 ?_
            refine Y_istore_4 i_X10_two_61 rfl rfl ?_
            have hsx : N 0 3 x9 = 0 := by omega
            have hsy : N 0 3 y9 = 0 := by omega
            have loop : ∀ (n : Nat) (j : Nat) (T R : zAft) (L : Option Value), j + n = 4 → (∀ q : Nat, q < j → sBl (N 0) x9 y9 q = false) → zSv T → zKe 42 K R → zX kX10_two 7 63 [some (.ref 38), some (.int (zii x9)), some (.int (zii y9)), some (.int (zii 0)), some (.int (zii j)), L] [] (zs (zs (zs M 14 T) 13 R) 3 (N 0)) (zAy (w_two N (x9 : Nat) (y9 : Nat)) (.int (zii (w_two N (x9 : Nat) (y9 : Nat)))) (.int (zii (a_two N (x9 : Nat) (y9 : Nat)))) (zs (zs (zs M 14 S) 13 K) 3 (N 0)) (zs (zs (zs M 14 S) 13 K) 3 (N 0))) := by
              intro n
              induction n with
              | zero =>
                intro j T R L hg hno hT hR
                obtain rfl : j = 4 := by omega
                refine Y_iload_4 i_X10_two_63 ?_
                refine X_iconst i_X10_two_65 ?_
                refine X_icmp_ge i_X10_two_66 (tgt := 143) rfl ⟨by omega, by omega⟩ ⟨by omega, by omega⟩ (fun h66 => ?_) (fun h66 => by exfalso; omega)
                refine X_bipush i_X10_two_143 (by decide +kernel) ?_
                refine X_iret i_X10_two_145 rfl ?_
                exact zay0 (by unfold w_two; (try rw [sFb2_e]); repeat (first | omega | split)) (zvi (by unfold a_two sBa; rw [Int.toNat_natCast, Int.toNat_natCast, sFst_none 4 hno, if_pos rfl])) (zey_s hT hR)
              | succ n ih =>
                intro j T R L hg hno hT hR
                have hps := sPs_m j x9 y9 (by omega) (by omega) (by omega)
                have hzs : zSit (N 0) (sPs j x9 y9) := ⟨(sPs_at j x9 y9 (by omega) (by omega) (by omega)).2, fun g hg hb => by
                  rcases sPs_tb j x9 y9 g (by omega) (by omega) (by omega) (by omega) hb with e | e
                  · subst e; exact hsx
                  · subst e; exact hsy⟩
                have hbl := sBl_iff (A := N 0) (x := x9) (y := y9) (p := j) (by omega) (by omega) (by omega)
                refine Y_iload_4 i_X10_two_63 ?_
                refine X_iconst i_X10_two_65 ?_
                refine X_icmp_ge i_X10_two_66 (tgt := 143) rfl ⟨by omega, by omega⟩ ⟨by omega, by omega⟩ (fun h66 => by exfalso; omega) (fun h66 => ?_)
                refine Y_iload_4 i_X10_two_69 ?_
                refine X_iconst i_X10_two_71 ?_
                refine X_idiv i_X10_two_72 ⟨by omega, by omega⟩ (by omega) ?_
                rw [show zdiv (j : Int) 2 = ((j / 2 : Nat) : Int) from zdiv_n (b := 2) (by omega) (by omega) (by omega)]
                refine X_iconst i_X10_two_73 ?_
                refine Y_icmp_ne i_X10_two_74 (tgt := 83) rfl ⟨by omega, by omega⟩ ⟨by omega, by omega⟩ (fun h74 => ?_) (fun h74 => ?_)
                · refine X_iconst i_X10_two_83 ?_
                  refine Y_iload_4 i_X10_two_84 ?_
                  refine X_iconst i_X10_two_86 ?_
                  refine X_irem i_X10_two_87 ⟨by omega, by omega⟩ (by omega) ?_
                  rw [show zrem (j : Int) 2 = ((j % 2 : Nat) : Int) from zrem_n (b := 2) (by omega) (by omega) (by omega)]
                  refine X_iconst i_X10_two_88 ?_
                  refine Y_icmp_ne i_X10_two_89 (tgt := 98) rfl ⟨by omega, by omega⟩ ⟨by omega, by omega⟩ (fun h89 => ?_) (fun h89 => ?_)
                  · refine X_iconst i_X10_two_98 ?_
                    refine X_ior i_X10_two_99 ?_
                    rw [if_neg (by omega), if_neg (by omega)] at hps
                    rw [hps]
                    refine Y_istore_5 i_X10_two_100 rfl rfl ?_
                    refine Y_aload_0 i_X10_two_102 ?_
                    refine Y_iload_5 i_X10_two_103 ?_
                    refine Y_iload_1 i_X10_two_105 ?_
                    refine Y_iload_1 i_X10_two_106 ?_
                    refine Y_callVq (k' := kX10_isSooner) i_X10_two_107 l_X10_247 m_X10_isSooner (c_X10_isSooner hA hT hzs (by omega) hsx) rfl rfl rfl rfl rfl ?_
                    intro r9 M9 hr9
                    obtain ⟨rfl, S1, K1, hS1, hk1, rfl⟩ := hr9
                    refine X_tl ?_
                    refine Y_ifq_ne i_X10_two_110 (tgt := 137) rfl  (fun h110 => ?_) (fun h110 => ?_)
                    · refine Y_iinc_4 i_X10_two_137 rfl rfl ?_
                      refine X_goto i_X10_two_140 (tgt := 63) rfl ?_
                      exact X_eq (ih (j + 1) S1 K1 (some (.int (zii (sPs j x9 y9 : Nat)))) (by omega) (fun q hq => by
                        by_cases e : q = j
                        · subst e; exact Bool.eq_false_iff.mpr (fun z => by have := hbl.mp z; omega)
                        · exact hno q (by omega)) hS1 (hR.tr hk1)) (by simp) rfl rfl
                    · refine Y_aload_0 i_X10_two_113 ?_
                      refine Y_iload_5 i_X10_two_114 ?_
                      refine Y_iload_2 i_X10_two_116 ?_
                      refine Y_iload_2 i_X10_two_117 ?_
                      refine Y_callVq (k' := kX10_isSooner) i_X10_two_118 l_X10_247 m_X10_isSooner (c_X10_isSooner hA hS1 hzs (by omega) hsy) rfl rfl rfl rfl rfl ?_
                      intro r9 M9 hr9
                      obtain ⟨rfl, S2, K2, hS2, hk2, rfl⟩ := hr9
                      refine X_tl ?_
                      refine Y_ifq_ne i_X10_two_121 (tgt := 137) rfl  (fun h121 => ?_) (fun h121 => ?_)
                      · refine Y_iinc_4 i_X10_two_137 rfl rfl ?_
                        refine X_goto i_X10_two_140 (tgt := 63) rfl ?_
                        exact X_eq (ih (j + 1) S2 K2 (some (.int (zii (sPs j x9 y9 : Nat)))) (by omega) (fun q hq => by
                          by_cases e : q = j
                          · subst e; exact Bool.eq_false_iff.mpr (fun z => by have := hbl.mp z; omega)
                          · exact hno q (by omega)) hS2 ((hR.tr hk1).tr hk2)) (by simp) rfl rfl
                      · refine X_bipush i_X10_two_124 (by decide +kernel) ?_
                        refine Y_iload_4 i_X10_two_126 ?_
                        refine X_iconst i_X10_two_128 ?_
                        refine X_idiv i_X10_two_129 ⟨by omega, by omega⟩ (by omega) ?_
                        rw [show zdiv (j : Int) 2 = ((j / 2 : Nat) : Int) from zdiv_n (b := 2) (by omega) (by omega) (by omega)]
                        refine X_imul i_X10_two_130 ?_
                        refine Y_iload_4 i_X10_two_131 ?_
                        refine X_iconst i_X10_two_133 ?_
                        refine X_irem i_X10_two_134 ⟨by omega, by omega⟩ (by omega) ?_
                        rw [show zrem (j : Int) 2 = ((j % 2 : Nat) : Int) from zrem_n (b := 2) (by omega) (by omega) (by omega)]
                        refine X_iadd i_X10_two_135 ?_
                        refine X_iret i_X10_two_136 rfl ?_
                        have hh := sFst_eq hno (hbl.mpr ⟨by omega, by omega⟩) 4 (by omega)
                        exact zay0 (by unfold w_two; (try rw [sFb2_e]); repeat (first | omega | split)) (zvi (by unfold a_two sBa; rw [Int.toNat_natCast, Int.toNat_natCast, hh, if_neg (by omega)])) (zey_s hS2 ((hR.tr hk1).tr hk2))
                  · refine X_iconst i_X10_two_92 ?_
                    refine Y_iload_2 i_X10_two_93 ?_
                    refine X_ishl i_X10_two_94 ?_
                    refine X_goto i_X10_two_95 (tgt := 99) rfl ?_
                    refine X_ior i_X10_two_99 ?_
                    rw [if_neg (by omega), if_pos (by omega)] at hps
                    rw [hps]
                    refine Y_istore_5 i_X10_two_100 rfl rfl ?_
                    refine Y_aload_0 i_X10_two_102 ?_
                    refine Y_iload_5 i_X10_two_103 ?_
                    refine Y_iload_1 i_X10_two_105 ?_
                    refine Y_iload_1 i_X10_two_106 ?_
                    refine Y_callVq (k' := kX10_isSooner) i_X10_two_107 l_X10_247 m_X10_isSooner (c_X10_isSooner hA hT hzs (by omega) hsx) rfl rfl rfl rfl rfl ?_
                    intro r9 M9 hr9
                    obtain ⟨rfl, S1, K1, hS1, hk1, rfl⟩ := hr9
                    refine X_tl ?_
                    refine Y_ifq_ne i_X10_two_110 (tgt := 137) rfl  (fun h110 => ?_) (fun h110 => ?_)
                    · refine Y_iinc_4 i_X10_two_137 rfl rfl ?_
                      refine X_goto i_X10_two_140 (tgt := 63) rfl ?_
                      exact X_eq (ih (j + 1) S1 K1 (some (.int (zii (sPs j x9 y9 : Nat)))) (by omega) (fun q hq => by
                        by_cases e : q = j
                        · subst e; exact Bool.eq_false_iff.mpr (fun z => by have := hbl.mp z; omega)
                        · exact hno q (by omega)) hS1 (hR.tr hk1)) (by simp) rfl rfl
                    · refine Y_aload_0 i_X10_two_113 ?_
                      refine Y_iload_5 i_X10_two_114 ?_
                      refine Y_iload_2 i_X10_two_116 ?_
                      refine Y_iload_2 i_X10_two_117 ?_
                      refine Y_callVq (k' := kX10_isSooner) i_X10_two_118 l_X10_247 m_X10_isSooner (c_X10_isSooner hA hS1 hzs (by omega) hsy) rfl rfl rfl rfl rfl ?_
                      intro r9 M9 hr9
                      obtain ⟨rfl, S2, K2, hS2, hk2, rfl⟩ := hr9
                      refine X_tl ?_
                      refine Y_ifq_ne i_X10_two_121 (tgt := 137) rfl  (fun h121 => ?_) (fun h121 => ?_)
                      · refine Y_iinc_4 i_X10_two_137 rfl rfl ?_
                        refine X_goto i_X10_two_140 (tgt := 63) rfl ?_
                        exact X_eq (ih (j + 1) S2 K2 (some (.int (zii (sPs j x9 y9 : Nat)))) (by omega) (fun q hq => by
                          by_cases e : q = j
                          · subst e; exact Bool.eq_false_iff.mpr (fun z => by have := hbl.mp z; omega)
                          · exact hno q (by omega)) hS2 ((hR.tr hk1).tr hk2)) (by simp) rfl rfl
                      · refine X_bipush i_X10_two_124 (by decide +kernel) ?_
                        refine Y_iload_4 i_X10_two_126 ?_
                        refine X_iconst i_X10_two_128 ?_
                        refine X_idiv i_X10_two_129 ⟨by omega, by omega⟩ (by omega) ?_
                        rw [show zdiv (j : Int) 2 = ((j / 2 : Nat) : Int) from zdiv_n (b := 2) (by omega) (by omega) (by omega)]
                        refine X_imul i_X10_two_130 ?_
                        refine Y_iload_4 i_X10_two_131 ?_
                        refine X_iconst i_X10_two_133 ?_
                        refine X_irem i_X10_two_134 ⟨by omega, by omega⟩ (by omega) ?_
                        rw [show zrem (j : Int) 2 = ((j % 2 : Nat) : Int) from zrem_n (b := 2) (by omega) (by omega) (by omega)]
                        refine X_iadd i_X10_two_135 ?_
                        refine X_iret i_X10_two_136 rfl ?_
                        have hh := sFst_eq hno (hbl.mpr ⟨by omega, by omega⟩) 4 (by omega)
                        exact zay0 (by unfold w_two; (try rw [sFb2_e]); repeat (first | omega | split)) (zvi (by unfold a_two sBa; rw [Int.toNat_natCast, Int.toNat_natCast, hh, if_neg (by omega)])) (zey_s hS2 ((hR.tr hk1).tr hk2))
                · refine X_iconst i_X10_two_77 ?_
                  refine Y_iload_1 i_X10_two_78 ?_
                  refine X_ishl i_X10_two_79 ?_
                  refine X_goto i_X10_two_80 (tgt := 84) rfl ?_
                  refine Y_iload_4 i_X10_two_84 ?_
                  refine X_iconst i_X10_two_86 ?_
                  refine X_irem i_X10_two_87 ⟨by omega, by omega⟩ (by omega) ?_
                  rw [show zrem (j : Int) 2 = ((j % 2 : Nat) : Int) from zrem_n (b := 2) (by omega) (by omega) (by omega)]
                  refine X_iconst i_X10_two_88 ?_
                  refine Y_icmp_ne i_X10_two_89 (tgt := 98) rfl ⟨by omega, by omega⟩ ⟨by omega, by omega⟩ (fun h89 => ?_) (fun h89 => ?_)
                  · refine X_iconst i_X10_two_98 ?_
                    refine X_ior i_X10_two_99 ?_
                    rw [if_pos (by omega), if_neg (by omega)] at hps
                    rw [hps]
                    refine Y_istore_5 i_X10_two_100 rfl rfl ?_
                    refine Y_aload_0 i_X10_two_102 ?_
                    refine Y_iload_5 i_X10_two_103 ?_
                    refine Y_iload_1 i_X10_two_105 ?_
                    refine Y_iload_1 i_X10_two_106 ?_
                    refine Y_callVq (k' := kX10_isSooner) i_X10_two_107 l_X10_247 m_X10_isSooner (c_X10_isSooner hA hT hzs (by omega) hsx) rfl rfl rfl rfl rfl ?_
                    intro r9 M9 hr9
                    obtain ⟨rfl, S1, K1, hS1, hk1, rfl⟩ := hr9
                    refine X_tl ?_
                    refine Y_ifq_ne i_X10_two_110 (tgt := 137) rfl  (fun h110 => ?_) (fun h110 => ?_)
                    · refine Y_iinc_4 i_X10_two_137 rfl rfl ?_
                      refine X_goto i_X10_two_140 (tgt := 63) rfl ?_
                      exact X_eq (ih (j + 1) S1 K1 (some (.int (zii (sPs j x9 y9 : Nat)))) (by omega) (fun q hq => by
                        by_cases e : q = j
                        · subst e; exact Bool.eq_false_iff.mpr (fun z => by have := hbl.mp z; omega)
                        · exact hno q (by omega)) hS1 (hR.tr hk1)) (by simp) rfl rfl
                    · refine Y_aload_0 i_X10_two_113 ?_
                      refine Y_iload_5 i_X10_two_114 ?_
                      refine Y_iload_2 i_X10_two_116 ?_
                      refine Y_iload_2 i_X10_two_117 ?_
                      refine Y_callVq (k' := kX10_isSooner) i_X10_two_118 l_X10_247 m_X10_isSooner (c_X10_isSooner hA hS1 hzs (by omega) hsy) rfl rfl rfl rfl rfl ?_
                      intro r9 M9 hr9
                      obtain ⟨rfl, S2, K2, hS2, hk2, rfl⟩ := hr9
                      refine X_tl ?_
                      refine Y_ifq_ne i_X10_two_121 (tgt := 137) rfl  (fun h121 => ?_) (fun h121 => ?_)
                      · refine Y_iinc_4 i_X10_two_137 rfl rfl ?_
                        refine X_goto i_X10_two_140 (tgt := 63) rfl ?_
                        exact X_eq (ih (j + 1) S2 K2 (some (.int (zii (sPs j x9 y9 : Nat)))) (by omega) (fun q hq => by
                          by_cases e : q = j
                          · subst e; exact Bool.eq_false_iff.mpr (fun z => by have := hbl.mp z; omega)
                          · exact hno q (by omega)) hS2 ((hR.tr hk1).tr hk2)) (by simp) rfl rfl
                      · refine X_bipush i_X10_two_124 (by decide +kernel) ?_
                        refine Y_iload_4 i_X10_two_126 ?_
                        refine X_iconst i_X10_two_128 ?_
                        refine X_idiv i_X10_two_129 ⟨by omega, by omega⟩ (by omega) ?_
                        rw [show zdiv (j : Int) 2 = ((j / 2 : Nat) : Int) from zdiv_n (b := 2) (by omega) (by omega) (by omega)]
                        refine X_imul i_X10_two_130 ?_
                        refine Y_iload_4 i_X10_two_131 ?_
                        refine X_iconst i_X10_two_133 ?_
                        refine X_irem i_X10_two_134 ⟨by omega, by omega⟩ (by omega) ?_
                        rw [show zrem (j : Int) 2 = ((j % 2 : Nat) : Int) from zrem_n (b := 2) (by omega) (by omega) (by omega)]
                        refine X_iadd i_X10_two_135 ?_
                        refine X_iret i_X10_two_136 rfl ?_
                        have hh := sFst_eq hno (hbl.mpr ⟨by omega, by omega⟩) 4 (by omega)
                        exact zay0 (by unfold w_two; (try rw [sFb2_e]); repeat (first | omega | split)) (zvi (by unfold a_two sBa; rw [Int.toNat_natCast, Int.toNat_natCast, hh, if_neg (by omega)])) (zey_s hS2 ((hR.tr hk1).tr hk2))
                  · refine X_iconst i_X10_two_92 ?_
                    refine Y_iload_2 i_X10_two_93 ?_
                    refine X_ishl i_X10_two_94 ?_
                    refine X_goto i_X10_two_95 (tgt := 99) rfl ?_
                    refine X_ior i_X10_two_99 ?_
                    rw [if_pos (by omega), if_pos (by omega)] at hps
                    rw [hps]
                    refine Y_istore_5 i_X10_two_100 rfl rfl ?_
                    refine Y_aload_0 i_X10_two_102 ?_
                    refine Y_iload_5 i_X10_two_103 ?_
                    refine Y_iload_1 i_X10_two_105 ?_
                    refine Y_iload_1 i_X10_two_106 ?_
                    refine Y_callVq (k' := kX10_isSooner) i_X10_two_107 l_X10_247 m_X10_isSooner (c_X10_isSooner hA hT hzs (by omega) hsx) rfl rfl rfl rfl rfl ?_
                    intro r9 M9 hr9
                    obtain ⟨rfl, S1, K1, hS1, hk1, rfl⟩ := hr9
                    refine X_tl ?_
                    refine Y_ifq_ne i_X10_two_110 (tgt := 137) rfl  (fun h110 => ?_) (fun h110 => ?_)
                    · refine Y_iinc_4 i_X10_two_137 rfl rfl ?_
                      refine X_goto i_X10_two_140 (tgt := 63) rfl ?_
                      exact X_eq (ih (j + 1) S1 K1 (some (.int (zii (sPs j x9 y9 : Nat)))) (by omega) (fun q hq => by
                        by_cases e : q = j
                        · subst e; exact Bool.eq_false_iff.mpr (fun z => by have := hbl.mp z; omega)
                        · exact hno q (by omega)) hS1 (hR.tr hk1)) (by simp) rfl rfl
                    · refine Y_aload_0 i_X10_two_113 ?_
                      refine Y_iload_5 i_X10_two_114 ?_
                      refine Y_iload_2 i_X10_two_116 ?_
                      refine Y_iload_2 i_X10_two_117 ?_
                      refine Y_callVq (k' := kX10_isSooner) i_X10_two_118 l_X10_247 m_X10_isSooner (c_X10_isSooner hA hS1 hzs (by omega) hsy) rfl rfl rfl rfl rfl ?_
                      intro r9 M9 hr9
                      obtain ⟨rfl, S2, K2, hS2, hk2, rfl⟩ := hr9
                      refine X_tl ?_
                      refine Y_ifq_ne i_X10_two_121 (tgt := 137) rfl  (fun h121 => ?_) (fun h121 => ?_)
                      · refine Y_iinc_4 i_X10_two_137 rfl rfl ?_
                        refine X_goto i_X10_two_140 (tgt := 63) rfl ?_
                        exact X_eq (ih (j + 1) S2 K2 (some (.int (zii (sPs j x9 y9 : Nat)))) (by omega) (fun q hq => by
                          by_cases e : q = j
                          · subst e; exact Bool.eq_false_iff.mpr (fun z => by have := hbl.mp z; omega)
                          · exact hno q (by omega)) hS2 ((hR.tr hk1).tr hk2)) (by simp) rfl rfl
                      · refine X_bipush i_X10_two_124 (by decide +kernel) ?_
                        refine Y_iload_4 i_X10_two_126 ?_
                        refine X_iconst i_X10_two_128 ?_
                        refine X_idiv i_X10_two_129 ⟨by omega, by omega⟩ (by omega) ?_
                        rw [show zdiv (j : Int) 2 = ((j / 2 : Nat) : Int) from zdiv_n (b := 2) (by omega) (by omega) (by omega)]
                        refine X_imul i_X10_two_130 ?_
                        refine Y_iload_4 i_X10_two_131 ?_
                        refine X_iconst i_X10_two_133 ?_
                        refine X_irem i_X10_two_134 ⟨by omega, by omega⟩ (by omega) ?_
                        rw [show zrem (j : Int) 2 = ((j % 2 : Nat) : Int) from zrem_n (b := 2) (by omega) (by omega) (by omega)]
                        refine X_iadd i_X10_two_135 ?_
                        refine X_iret i_X10_two_136 rfl ?_
                        have hh := sFst_eq hno (hbl.mpr ⟨by omega, by omega⟩) 4 (by omega)
                        exact zay0 (by unfold w_two; (try rw [sFb2_e]); repeat (first | omega | split)) (zvi (by unfold a_two sBa; rw [Int.toNat_natCast, Int.toNat_natCast, hh, if_neg (by omega)])) (zey_s hS2 ((hR.tr hk1).tr hk2))
            exact loop 4 0 S K _ (by omega) (fun q h => absurd h (by omega)) hS zKe.rf
          · refine X_bipush i_X10_two_43 (by decide +kernel) ?_
            refine X_goto i_X10_two_45 (tgt := 49) rfl ?_
            refine Y_istore_3 i_X10_two_49 rfl rfl ?_
            refine Y_iload_3 i_X10_two_50 ?_
            refine X_if_eq i_X10_two_51 (tgt := 60) rfl ⟨by omega, by omega⟩ (fun h51 => by exfalso; omega) (fun h51 => ?_)
            refine Y_aload_0 i_X10_two_54 ?_
            refine Y_iload_3 i_X10_two_55 ?_
            refine Y_callV (k' := kX10_no) i_X10_two_56 l_X10_75 m_X10_no (c_X10_no (by omega) (by omega)) rfl rfl rfl rfl rfl ?_
            refine X_iret i_X10_two_59 rfl ?_
            exact zay1 (by unfold w_two; (try rw [sFb2_e]); repeat (first | omega | split)) (by omega) hS
      · refine X_iconst i_X10_two_21 ?_
        refine X_goto i_X10_two_22 (tgt := 49) rfl ?_
        refine Y_istore_3 i_X10_two_49 rfl rfl ?_
        refine Y_iload_3 i_X10_two_50 ?_
        refine X_if_eq i_X10_two_51 (tgt := 60) rfl ⟨by omega, by omega⟩ (fun h51 => by exfalso; omega) (fun h51 => ?_)
        refine Y_aload_0 i_X10_two_54 ?_
        refine Y_iload_3 i_X10_two_55 ?_
        refine Y_callV (k' := kX10_no) i_X10_two_56 l_X10_75 m_X10_no (c_X10_no (by omega) (by omega)) rfl rfl rfl rfl rfl ?_
        refine X_iret i_X10_two_59 rfl ?_
        exact zay1 (by unfold w_two; (try rw [sFb2_e]); repeat (first | omega | split)) (by omega) hS
theorem sAc_skip {A : zAft} (hG : sG A ≤ 6) : ∀ n : Nat, n + sSn A 0 (sG A) ≤ 63 → sAc A n = 0 ∧ sAl A n = -9 := by
  intro n
  induction n with
  | zero => intro _; exact ⟨rfl, rfl⟩
  | succ n ih =>
    intro h
    have hq : sAq A (63 - n) = false := by
      unfold sAq
      rw [Bool.and_eq_false_iff]
      refine Or.inl (decide_eq_false (fun e => ?_))
      have := Nat.and_le_right (n := 63 - n) (m := sSn A 0 (sG A))
      omega
    have h2 := ih (by omega)
    simp only [sAc, sAl, hq]
    exact h2
theorem sAc_in (A : zAft) : ∀ n : Nat, 0 ≤ sAc A n ∧ sAc A n ≤ n := by
  intro n
  induction n with
  | zero => simp [sAc]
  | succ n ih => simp only [sAc]; split <;> omega
set_option maxRecDepth 100000 in
theorem c_X10_rest {M N : zMem} {S K : zAft} (hA : zOk 999 (N 0)) (hS : zSv S) {w : Int} (h_w : zR w) : zCt kX10_rest 8 [.ref 38, .int (zii w)] ((zs (zs (zs M 14 S) 13 K) 3 (N 0))) (zAy (w_rest N w) (.int (zii (w_rest N w))) (.int (zii (a_rest N w))) (zs (zs (zs M 14 S) 13 K) 3 (N 0)) (zs (zs (zs M 14 S) 13 K) 3 (N 0))) := by
  have h6 := hA.1
  unfold zH at h6
  have hG := sG_le hA.1
  have b_w := h_w.1
  have c_w := h_w.2
  have hZ := sSet_n (N 0) 0 (sG (N 0)) hG.1
  have hZ64 := sSn_64 (N 0) 0 (n := sG (N 0)) hG.1
  refine zMet (by decide) (Nat.le_of_ble_eq_true rfl) ?_
  show zX kX10_rest 8 0 [some (.ref 38), some (.int (zii w)), none, none, none, none] [] _ _
  refine Y_iload_1 i_X10_rest_0 ?_
  refine X_iconst i_X10_rest_1 ?_
  refine X_iconst i_X10_rest_2 ?_
  refine Y_callS (k' := kX10_isIn) i_X10_rest_3 l_X10_86 m_X10_isIn (c_X10_isIn ⟨by omega, by omega⟩ (zR_lit rfl) (zR_lit rfl)) rfl rfl rfl rfl ?_
  refine Y_ifq_ne i_X10_rest_6 (tgt := 16) rfl  (fun h6 => ?_) (fun h6 => ?_)
  · refine Y_aload_0 i_X10_rest_16 ?_
    refine Y_callV (k' := kX10_whoSit) i_X10_rest_17 l_X10_237 m_X10_whoSit (c_X10_whoSit (zs_self _ _ _) hA) rfl rfl rfl rfl rfl ?_
    rw [hZ]
    refine Y_istore_2 i_X10_rest_20 rfl rfl ?_
    refine X_iconst i_X10_rest_21 ?_
    refine Y_istore_3 i_X10_rest_22 rfl rfl ?_
    refine X_bipush i_X10_rest_23 (by decide +kernel) ?_
    refine Y_istore_4 i_X10_rest_25 rfl rfl ?_
    refine Y_iload_2 i_X10_rest_27 ?_
    refine Y_istore_5 i_X10_rest_28 rfl rfl ?_
    have loop : ∀ (n : Nat) (j : Nat) (T R : zAft), j + n = 64 → zSv T → zKe 42 K R → zX kX10_rest 8 30 [some (.ref 38), some (.int (zii w)), some (.int (zii ((sSn (N 0) 0 (sG (N 0))) : Nat))), some (.int (zii (sAc (N 0) j))), some (.int (zii (sAl (N 0) j))), some (.int (zii (63 - (j : Int))))] [] (zs (zs (zs M 14 T) 13 R) 3 (N 0)) (zAy (w_rest N w) (.int (zii (w_rest N w))) (.int (zii (a_rest N w))) (zs (zs (zs M 14 S) 13 K) 3 (N 0)) (zs (zs (zs M 14 S) 13 K) 3 (N 0))) := by
      intro n
      induction n with
      | zero =>
        intro j T R hg hT hR
        obtain rfl : j = 64 := by omega
        refine Y_iload_5 i_X10_rest_30 ?_
        refine X_if_lt i_X10_rest_32 (tgt := 70) rfl ⟨by omega, by omega⟩ (fun h32 => ?_) (fun h32 => by exfalso; omega)
        refine Y_iload_1 i_X10_rest_70 ?_
        refine Y_if_ne i_X10_rest_71 (tgt := 78) rfl ⟨by omega, by omega⟩ (fun h71 => ?_) (fun h71 => ?_)
        · refine Y_iload_4 i_X10_rest_78 ?_
          refine X_iret i_X10_rest_80 rfl ?_
          exact zay0 (by unfold w_rest; (try rw [sFb2_e]); repeat (first | omega | split)) (zvi (by unfold a_rest sAtr; rw [if_neg h71])) (zey_s hT hR)
        · refine Y_iload_3 i_X10_rest_74 ?_
          refine X_goto i_X10_rest_75 (tgt := 80) rfl ?_
          refine X_iret i_X10_rest_80 rfl ?_
          exact zay0 (by unfold w_rest; (try rw [sFb2_e]); repeat (first | omega | split)) (zvi (by unfold a_rest sAtr; rw [if_pos h71])) (zey_s hT hR)
      | succ n ih =>
        intro j T R hg hT hR
        obtain ⟨s, hs⟩ : ∃ s : Nat, s = 63 - j := ⟨_, rfl⟩
        have hsj : (63 : Int) - (j : Int) = (s : Int) := by omega
        rw [hsj]
        have hzn := zsub_n s (sSn (N 0) 0 (sG (N 0))) (by omega) hZ64
        have hza := zand_in (a := (s : Int)) (zxor ((sSn (N 0) 0 (sG (N 0))) : Int) (-1)) (by omega) (by omega)
        have hac := sAc_in (N 0) j
        have hnx : (63 : Int) - ((j + 1 : Nat) : Int) = (s : Int) + -1 := by omega
        refine Y_iload_5 i_X10_rest_30 ?_
        refine X_if_lt i_X10_rest_32 (tgt := 70) rfl ⟨by omega, by omega⟩ (fun h32 => by exfalso; omega) (fun h32 => ?_)
        refine Y_iload_5 i_X10_rest_35 ?_
        refine Y_iload_2 i_X10_rest_37 ?_
        refine X_iconst i_X10_rest_38 ?_
        refine X_ixor i_X10_rest_39 ?_
        refine X_iand i_X10_rest_40 ?_
        refine Y_if_ne i_X10_rest_41 (tgt := 64) rfl ⟨by omega, by omega⟩ (fun h41 => ?_) (fun h41 => ?_)
        · refine Y_iinc_5 i_X10_rest_64 rfl rfl ?_
          refine X_goto i_X10_rest_67 (tgt := 30) rfl ?_
          have hq : sAq (N 0) (63 - j) = false := by
            rw [← hs]; unfold sAq; rw [Bool.and_eq_false_iff]; exact Or.inl (decide_eq_false (fun e => h41 (hzn.mpr e)))
          exact X_eq (ih (j + 1) T R (by omega) hT hR) (by rw [hnx]; simp only [sAc, sAl, hq]; rfl) rfl rfl
        · refine Y_aload_0 i_X10_rest_44 ?_
          refine Y_iload_5 i_X10_rest_45 ?_
          refine Y_iload_2 i_X10_rest_47 ?_
          refine Y_callVq (k' := kX10_isAtRest) i_X10_rest_48 l_X10_250 m_X10_isAtRest (c_X10_isAtRest hA hT (zSit_of (by omega) (by omega) (hzn.mp (by omega)))) rfl rfl rfl rfl rfl ?_
          intro r9 M9 hr9
          obtain ⟨rfl, S1, K1, hS1, hk1, rfl⟩ := hr9
          refine X_tl ?_
          refine Y_ifq_ne i_X10_rest_51 (tgt := 57) rfl  (fun h51 => ?_) (fun h51 => ?_)
          · refine Y_iinc_3 i_X10_rest_57 rfl rfl ?_
            refine Y_iload_5 i_X10_rest_60 ?_
            refine Y_istore_4 i_X10_rest_62 rfl rfl ?_
            refine Y_iinc_5 i_X10_rest_64 rfl rfl ?_
            refine X_goto i_X10_rest_67 (tgt := 30) rfl ?_
            have hq : sAq (N 0) (63 - j) = true := by
              rw [← hs]; unfold sAq; rw [decide_eq_true (hzn.mp (by omega)), Bool.true_and]; exact h51
            exact X_eq (ih (j + 1) S1 K1 (by omega) hS1 (hR.tr hk1)) (by rw [hnx]; simp only [sAc, sAl, hq]; first | rfl | (rw [if_pos trivial, if_pos trivial, ← hs])) rfl rfl
          · refine X_goto i_X10_rest_54 (tgt := 64) rfl ?_
            refine Y_iinc_5 i_X10_rest_64 rfl rfl ?_
            refine X_goto i_X10_rest_67 (tgt := 30) rfl ?_
            have hq : sAq (N 0) (63 - j) = false := by
              rw [← hs]; unfold sAq; rw [decide_eq_true (hzn.mp (by omega)), Bool.true_and]; exact Bool.eq_false_iff.mpr h51
            exact X_eq (ih (j + 1) S1 K1 (by omega) hS1 (hR.tr hk1)) (by rw [hnx]; simp only [sAc, sAl, hq]; first | rfl | (rw [if_pos trivial, if_pos trivial, ← hs])) rfl rfl
    have hsk := sAc_skip (A := N 0) hG.1 (63 - (sSn (N 0) 0 (sG (N 0)))) (by omega)
    exact X_eq (loop ((sSn (N 0) 0 (sG (N 0))) + 1) (63 - (sSn (N 0) 0 (sG (N 0)))) S K (by omega) hS zKe.rf) (by rw [hsk.1, hsk.2, show (63 : Int) - ((63 - (sSn (N 0) 0 (sG (N 0))) : Nat) : Int) = ((sSn (N 0) 0 (sG (N 0))) : Int) by omega]) rfl rfl
  · refine Y_aload_0 i_X10_rest_9 ?_
    refine X_bipush i_X10_rest_10 (by decide +kernel) ?_
    refine Y_callV (k' := kX10_no) i_X10_rest_12 l_X10_75 m_X10_no (c_X10_no (by omega) (by omega)) rfl rfl rfl rfl rfl ?_
    refine X_iret i_X10_rest_15 rfl ?_
    exact zay1 (by unfold w_rest; (try rw [sFb2_e]); repeat (first | omega | split)) (by omega) hS
theorem sHo_w (A : zAft) (c r c' r' : Int) : zwr (zwr (sHo A c r) 6 1 c') 6 2 r' = sHo A c' r' := by
  funext q i
  unfold sHo zwr
  by_cases h1 : q = 6 ∧ i = 2
  · rw [if_pos h1, if_pos h1]
  · rw [if_neg h1, if_neg h1]
    by_cases h2 : q = 6 ∧ i = 1
    · rw [if_pos h2, if_neg h1, if_pos h2]
    · rw [if_neg h2, if_neg h1, if_neg h2, if_neg h2]
theorem sHo_id (A : zAft) : sHo A (A 6 1) (A 6 2) = A := by
  unfold sHo; rw [zwr_id, zwr_id]
theorem sHo_m (A : zAft) (c r s : Int) : sMany (sHo A c r) s = sMany A s := by unfold sHo; rw [sMany_6 _ _ _ _ (by decide), sMany_6 _ _ _ _ (by decide)]
def sLq (f : Nat → Int) (j : Nat) : Int := if sW 181 f (-9) j < 0 then 0 else sS 181 f j
theorem sLq_1 {f : Nat → Int} {j : Nat} (hf : f j ≤ 180) (h : sHb (sW 181 f (-9) j) < 0 ∨ f j < sLq f j) : sW 181 f (-9) (j + 1) = j ∧ sLq f (j + 1) = f j := by
  have e9 : f j < sS 181 f j := by
    rcases sW_spec 181 f (-9) j with ⟨_, h2, h3⟩ | ⟨k, _, h2, _⟩
    · omega
    · rcases h with h | h
      · rw [h2] at h; unfold sHb at h; rw [if_neg (by omega)] at h; omega
      · unfold sLq at h; rw [if_neg (by omega)] at h; exact h
  have h5 : sW 181 f (-9) (j + 1) = j := by simp only [sW]; rw [if_pos e9]
  have h6 : sS 181 f (j + 1) = f j := by simp only [sS]; rw [if_pos e9]
  refine ⟨h5, ?_⟩
  unfold sLq
  rw [h5, h6, if_neg (by omega)]
theorem sLq_0 {f : Nat → Int} {j : Nat} (h : 181 ≤ f j ∨ (0 ≤ sHb (sW 181 f (-9) j) ∧ sLq f j ≤ f j)) : sW 181 f (-9) (j + 1) = sW 181 f (-9) j ∧ sLq f (j + 1) = sLq f j := by
  have e9 : ¬ f j < sS 181 f j := by
    have := sS_le 181 f j
    rcases h with h | h
    · omega
    · rcases sW_spec 181 f (-9) j with ⟨_, h2, h3⟩ | ⟨k, _, h2, _⟩
      · rw [h2] at h; exact absurd h.1 (by decide)
      · have h1 := h.2
        unfold sLq at h1; rw [if_neg (by omega)] at h1; omega
  have h5 : sW 181 f (-9) (j + 1) = sW 181 f (-9) j := by simp only [sW]; rw [if_neg e9]
  have h6 : sS 181 f (j + 1) = sS 181 f j := by simp only [sS]; rw [if_neg e9]
  refine ⟨h5, ?_⟩
  unfold sLq
  rw [h5, h6]
theorem sHb_in (f : Nat → Int) (j : Nat) (hj : j ≤ 20) : -9 ≤ sHb (sW 181 f (-9) j) ∧ sHb (sW 181 f (-9) j) ≤ 100 := by
  unfold sHb
  rcases sW_spec 181 f (-9) j with ⟨_, h2, _⟩ | ⟨k, _, h2, _⟩
  · rw [h2]; decide
  · rw [h2]; split <;> omega
theorem sLq_in (f : Nat → Int) (j : Nat) (hf : ∀ k : Nat, k < j → 0 ≤ f k) : 0 ≤ sLq f j ∧ sLq f j ≤ 181 := by
  have h1 := sS_le 181 f j
  have h2 := sS_ge f j hf
  unfold sLq; split <;> omega
set_option maxRecDepth 100000 in
theorem c_X10_hostess {M N : zMem} {S K : zAft} (hA : zOk 999 (N 0)) (hS : zSv S) {n : Int} (h_n : zR n) : zCt kX10_hostess 6 [.ref 38, .int (zii n)] ((zs (zs (zs M 14 S) 13 K) 3 (N 0))) (zAy (w_hostess N n) (.int (zii (w_hostess N n))) (.int (zii (a_hostess N n))) (zs (zs (zs M 14 S) 13 K) 3 (N 0)) (zs (zs (zs M 14 S) 13 K) 3 (N 0))) := by
  have h6 := hA.1
  unfold zH at h6
  have hG := sG_le hA.1
  have b_n := h_n.1
  have c_n := h_n.2
  have hfa := sFa_in n
  refine zMet (by decide) (Nat.le_of_ble_eq_true rfl) ?_
  show zX kX10_hostess 6 0 [some (.ref 38), some (.int (zii n)), none, none, none, none, none, none, none] [] _ _
  refine Y_iload_1 i_X10_hostess_0 ?_
  refine Y_callS (k' := kX10_notMinutes) i_X10_hostess_1 l_X10_204 m_X10_notMinutes (c_X10_notMinutes ⟨by omega, by omega⟩) rfl rfl rfl rfl ?_
  refine Y_istore_2 i_X10_hostess_4 rfl rfl ?_
  refine Y_iload_2 i_X10_hostess_5 ?_
  refine X_if_eq i_X10_hostess_6 (tgt := 15) rfl ⟨by omega, by omega⟩ (fun h6 => ?_) (fun h6 => ?_)
  · obtain ⟨t, rfl⟩ : ∃ t : Nat, n = t := ⟨n.toNat, by omega⟩
    refine Y_aload_0 i_X10_hostess_15 ?_
    refine Y_getI i_X10_hostess_16 f_X10_58 rfl (zg0 _ _ _ _ _) ?_
    refine Y_istore_3 i_X10_hostess_19 rfl rfl ?_
    refine Y_aload_0 i_X10_hostess_20 ?_
    refine Y_getI i_X10_hostess_21 f_X10_124 rfl (zg0 _ _ _ _ _) ?_
    refine Y_istore_4 i_X10_hostess_24 rfl rfl ?_
    refine X_bipush i_X10_hostess_26 (by decide +kernel) ?_
    refine Y_istore_5 i_X10_hostess_28 rfl rfl ?_
    refine X_iconst i_X10_hostess_30 ?_
    refine Y_istore_6 i_X10_hostess_31 rfl rfl ?_
    refine X_iconst i_X10_hostess_33 ?_
    refine Y_istore_7 i_X10_hostess_34 rfl rfl ?_
    have loop : ∀ (n : Nat) (j : Nat) (c r : Int) (T R : zAft) (L : Option Value), j + n = 20 → zSv T → zKe 42 K R → zX kX10_hostess 6 36 [some (.ref 38), some (.int (zii (t : Nat))), some (.int (zii (sFa (t : Nat)))), some (.int (zii (N 0 6 1))), some (.int (zii (N 0 6 2))), some (.int (zii (sHb (sW 181 (sHk (N 0) t) (-9) j)))), some (.int (zii (sLq (sHk (N 0) t) j))), some (.int (zii ((j : Int) + 4))), L] [] (zs (zs (zs M 14 T) 13 R) 3 (sHo (N 0) c r)) (zAy (w_hostess N (t : Nat)) (.int (zii (w_hostess N (t : Nat)))) (.int (zii (a_hostess N (t : Nat)))) (zs (zs (zs M 14 S) 13 K) 3 (N 0)) (zs (zs (zs M 14 S) 13 K) 3 (N 0))) := by
      intro n
      induction n with
      | zero =>
        intro j c r T R L hg hT hR
        obtain rfl : j = 20 := by omega
        refine Y_iload_7 i_X10_hostess_36 ?_
        refine X_bipush i_X10_hostess_38 (by decide +kernel) ?_
        refine X_icmp_ge i_X10_hostess_40 (tgt := 120) rfl ⟨by omega, by omega⟩ ⟨by omega, by omega⟩ (fun h40 => ?_) (fun h40 => by exfalso; omega)
        refine Y_aload_0 i_X10_hostess_120 ?_
        refine Y_iload_3 i_X10_hostess_121 ?_
        refine Y_putI i_X10_hostess_122 f_X10_58 rfl t_7_8 (zp0 _ _ _ _ _ _) ?_
        refine Y_aload_0 i_X10_hostess_125 ?_
        refine Y_iload_4 i_X10_hostess_126 ?_
        refine Y_putI i_X10_hostess_128 f_X10_124 rfl t_7_9 (zp0 _ _ _ _ _ _) ?_
        rw [sHo_w, sHo_id]
        refine Y_iload_5 i_X10_hostess_131 ?_
        refine X_iret i_X10_hostess_133 rfl ?_
        exact zay0 (by unfold w_hostess; (try rw [sFb2_e]); repeat (first | omega | split)) (zvi rfl) (zey_s hT hR)
      | succ n ih =>
        intro j c r T R L hg hT hR
        have hB := sHo_ok hA (c := ((j / 4 : Nat) : Int) + 1) (r := ((j % 4 : Nat) : Int)) (by omega) (by omega)
        have hmi := sMany_in hA.1 2
        have hhk := sHk_in hA t j (by omega)
        have hhb := sHb_in (sHk (N 0) t) j (by omega)
        have hlq := sLq_in (sHk (N 0) t) j (fun k hk => (sHk_in hA t k (by omega)).1)
        have hm9 := sHo_m (N 0) (((j / 4 : Nat) : Int) + 1) ((j % 4 : Nat) : Int) 2
        have h61 : (sHo (N 0) (((j / 4 : Nat) : Int) + 1) ((j % 4 : Nat) : Int)) 6 1 = ((j / 4 : Nat) : Int) + 1 := by unfold sHo; rw [zwr_i (by decide), zr0]
        have h62 : (sHo (N 0) (((j / 4 : Nat) : Int) + 1) ((j % 4 : Nat) : Int)) 6 2 = ((j % 4 : Nat) : Int) := by unfold sHo; rw [zr0]
        have hGB := sHo_G (N 0) (((j / 4 : Nat) : Int) + 1) ((j % 4 : Nat) : Int)
        refine Y_iload_7 i_X10_hostess_36 ?_
        refine X_bipush i_X10_hostess_38 (by decide +kernel) ?_
        refine X_icmp_ge i_X10_hostess_40 (tgt := 120) rfl ⟨by omega, by omega⟩ ⟨by omega, by omega⟩ (fun h40 => by exfalso; omega) (fun h40 => ?_)
        refine Y_aload_0 i_X10_hostess_43 ?_
        refine Y_iload_7 i_X10_hostess_44 ?_
        refine X_iconst i_X10_hostess_46 ?_
        refine X_idiv i_X10_hostess_47 ⟨by omega, by omega⟩ (by omega) ?_
        rw [show zdiv ((j : Int) + 4) 4 = ((j / 4 : Nat) : Int) + 1 by rw [show (j : Int) + 4 = ((j + 4 : Nat) : Int) by omega]; exact (zdiv_n (b := 4) (by omega) (by omega) (by omega)).trans (by omega)]
        refine Y_putI i_X10_hostess_48 f_X10_58 rfl t_7_8 (zp0 _ _ _ _ _ _) ?_
        refine Y_aload_0 i_X10_hostess_51 ?_
        refine Y_iload_7 i_X10_hostess_52 ?_
        refine X_iconst i_X10_hostess_54 ?_
        refine X_irem i_X10_hostess_55 ⟨by omega, by omega⟩ (by omega) ?_
        rw [show zrem ((j : Int) + 4) 4 = ((j % 4 : Nat) : Int) by rw [show (j : Int) + 4 = ((j + 4 : Nat) : Int) by omega]; exact (zrem_n (b := 4) (by omega) (by omega) (by omega)).trans (by omega)]
        refine Y_putI i_X10_hostess_56 f_X10_124 rfl t_7_9 (zp0 _ _ _ _ _ _) ?_
        rw [sHo_w]
        refine Y_aload_0 i_X10_hostess_59 ?_
        refine Y_getI i_X10_hostess_60 f_X10_58 rfl (zg0 _ _ _ _ _) ?_
        rw [h61]
        refine Y_aload_0 i_X10_hostess_63 ?_
        refine X_iconst i_X10_hostess_64 ?_
        refine Y_callV (k' := kX10_manyIn) i_X10_hostess_65 l_X10_101 m_X10_manyIn (c_X10_manyIn (zs_self _ _ _) hB (zR_lit rfl)) rfl rfl rfl rfl rfl ?_
        rw [hm9]
        refine X_icmp_ge i_X10_hostess_68 (tgt := 74) rfl ⟨by omega, by omega⟩ ⟨by omega, by omega⟩ (fun h68 => ?_) (fun h68 => ?_)
        · have hfk : sHk (N 0) t j = sTh (sRun (sHo (N 0) (((j / 4 : Nat) : Int) + 1) ((j % 4 : Nat) : Int)) t) (sG (N 0)) := by unfold sHk; rw [if_pos (by omega)]
          refine Y_aload_0 i_X10_hostess_74 ?_
          refine Y_iload_1 i_X10_hostess_75 ?_
          refine Y_callVq (k' := kX10_thirstIn) i_X10_hostess_76 l_X10_289 m_X10_thirstIn (c_X10_thirstIn hB hT (by omega)) rfl rfl rfl rfl rfl ?_
          intro r9 M9 hr9
          obtain ⟨rfl, S1, K1, hS1, hk1, rfl⟩ := hr9
          refine X_tl ?_
          rw [hGB, ← hfk]
          refine Y_istore_8 i_X10_hostess_79 rfl rfl ?_
          refine Y_iload_5 i_X10_hostess_81 ?_
          refine X_if_lt i_X10_hostess_83 (tgt := 96) rfl ⟨by omega, by omega⟩ (fun h83 => ?_) (fun h83 => ?_)
          · refine X_bipush i_X10_hostess_96 (by decide +kernel) ?_
            refine Y_aload_0 i_X10_hostess_98 ?_
            refine Y_getI i_X10_hostess_99 f_X10_124 rfl (zg0 _ _ _ _ _) ?_
            rw [h62]
            refine X_imul i_X10_hostess_102 ?_
            refine Y_aload_0 i_X10_hostess_103 ?_
            refine Y_getI i_X10_hostess_104 f_X10_58 rfl (zg0 _ _ _ _ _) ?_
            rw [h61]
            refine X_iadd i_X10_hostess_107 ?_
            refine Y_istore_5 i_X10_hostess_108 rfl rfl ?_
            refine Y_iload_8 i_X10_hostess_110 ?_
            refine Y_istore_6 i_X10_hostess_112 rfl rfl ?_
            refine Y_iinc_7 i_X10_hostess_114 rfl rfl ?_
            refine X_goto i_X10_hostess_117 (tgt := 36) rfl ?_
            have hx := sLq_1 (f := (sHk (N 0) t)) (j := j) (by omega) (Or.inl h83)
            have hat := sHb_at (c := j / 4) (r := j % 4) (by omega)
            rw [show 4 * ((j / 4 : Nat) : Int) + ((j % 4 : Nat) : Int) = (j : Int) by omega] at hat
            exact X_eq (ih (j + 1) _ _ S1 K1 (some (.int (zii (sHk (N 0) t j)))) (by omega) hS1 (hR.tr hk1.mo)) (by rw [hx.1, hx.2, hat, show ((j + 1 : Nat) : Int) + 4 = (j : Int) + 4 + 1 by omega]) rfl rfl
          · refine Y_iload_8 i_X10_hostess_86 ?_
            refine Y_iload_6 i_X10_hostess_88 ?_
            refine X_icmp_lt i_X10_hostess_90 (tgt := 96) rfl ⟨by omega, by omega⟩ ⟨by omega, by omega⟩ (fun h90 => ?_) (fun h90 => ?_)
            · refine X_bipush i_X10_hostess_96 (by decide +kernel) ?_
              refine Y_aload_0 i_X10_hostess_98 ?_
              refine Y_getI i_X10_hostess_99 f_X10_124 rfl (zg0 _ _ _ _ _) ?_
              rw [h62]
              refine X_imul i_X10_hostess_102 ?_
              refine Y_aload_0 i_X10_hostess_103 ?_
              refine Y_getI i_X10_hostess_104 f_X10_58 rfl (zg0 _ _ _ _ _) ?_
              rw [h61]
              refine X_iadd i_X10_hostess_107 ?_
              refine Y_istore_5 i_X10_hostess_108 rfl rfl ?_
              refine Y_iload_8 i_X10_hostess_110 ?_
              refine Y_istore_6 i_X10_hostess_112 rfl rfl ?_
              refine Y_iinc_7 i_X10_hostess_114 rfl rfl ?_
              refine X_goto i_X10_hostess_117 (tgt := 36) rfl ?_
              have hx := sLq_1 (f := (sHk (N 0) t)) (j := j) (by omega) (Or.inr h90)
              have hat := sHb_at (c := j / 4) (r := j % 4) (by omega)
              rw [show 4 * ((j / 4 : Nat) : Int) + ((j % 4 : Nat) : Int) = (j : Int) by omega] at hat
              exact X_eq (ih (j + 1) _ _ S1 K1 (some (.int (zii (sHk (N 0) t j)))) (by omega) hS1 (hR.tr hk1.mo)) (by rw [hx.1, hx.2, hat, show ((j + 1 : Nat) : Int) + 4 = (j : Int) + 4 + 1 by omega]) rfl rfl
            · refine X_goto i_X10_hostess_93 (tgt := 114) rfl ?_
              refine Y_iinc_7 i_X10_hostess_114 rfl rfl ?_
              refine X_goto i_X10_hostess_117 (tgt := 36) rfl ?_
              have hx := sLq_0 (f := (sHk (N 0) t)) (j := j) (Or.inr ⟨by omega, by omega⟩)
              exact X_eq (ih (j + 1) _ _ S1 K1 (some (.int (zii (sHk (N 0) t j)))) (by omega) hS1 (hR.tr hk1.mo)) (by rw [hx.1, hx.2, show ((j + 1 : Nat) : Int) + 4 = (j : Int) + 4 + 1 by omega]) rfl rfl
        · refine X_goto i_X10_hostess_71 (tgt := 114) rfl ?_
          refine Y_iinc_7 i_X10_hostess_114 rfl rfl ?_
          refine X_goto i_X10_hostess_117 (tgt := 36) rfl ?_
          have hx := sLq_0 (f := (sHk (N 0) t)) (j := j) (Or.inl (by unfold sHk; rw [if_neg (by omega)]; omega))
          exact X_eq (ih (j + 1) _ _ T R L (by omega) hT hR) (by rw [hx.1, hx.2, show ((j + 1 : Nat) : Int) + 4 = (j : Int) + 4 + 1 by omega]) rfl rfl
    refine X_mm (M' := (zs (zs (zs M 14 S) 13 K) 3 (sHo (N 0) (N 0 6 1) (N 0 6 2)))) (by rw [sHo_id]) ?_
    exact loop 20 0 _ _ S K _ (by omega) hS zKe.rf
  · refine Y_aload_0 i_X10_hostess_9 ?_
    refine Y_iload_2 i_X10_hostess_10 ?_
    refine Y_callV (k' := kX10_no) i_X10_hostess_11 l_X10_75 m_X10_no (c_X10_no (by omega) (by omega)) rfl rfl rfl rfl rfl ?_
    refine X_iret i_X10_hostess_14 rfl ?_
    exact zay1 (by unfold w_hostess; (try rw [sFb2_e]); repeat (first | omega | split)) (by omega) hS
