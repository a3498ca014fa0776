theorem zey_b {b : Nat} (hb : b = 12 ∨ b = 16 ∨ b = 17) {M : zMem} {S K A S9 K9 W W9 : zAft} (hS : zSv S9) (hK : zKe 42 K K9) : zEy (zs (zs (zs (zs M b W) 14 S) 13 K) 3 A) (zs (zs (zs (zs M b W9) 14 S9) 13 K9) 3 A) :=
  ⟨fun m h12 h13 h14 h16 h17 => by
    have hmb : m ≠ b := by rcases hb with e | e | e <;> subst e <;> assumption
    by_cases e : m = 3
    · subst e; rw [zs_self, zs_self]
    · rw [zs_ne e, zs_ne h13, zs_ne h14, zs_ne hmb, zs_ne e, zs_ne h13, zs_ne h14, zs_ne hmb],
   hK, hS⟩
theorem getD_no {l : List Int} {i : Nat} (h : l.length ≤ i) : l.getD i (-9) = -9 := by
  simp [List.getD_eq_getElem?_getD, List.getElem?_eq_none h]
set_option maxRecDepth 100000 in
theorem c_X10_pouredX {M : zMem} {A S K : zAft} (hA : zOk 999 A) (hS : zSv S) : zCt kX10_pouredIn 5 [.ref 38, .int (zii 99)] ((zs (zs (zs M 14 S) 13 K) 3 A)) (fun r M9 => (∃ v : Int, r = some (.int (zii v))) ∧ ∃ K9, zKe 84 K K9 ∧ M9 = (zs (zs (zs M 14 (sRS A S 99)) 13 K9) 3 A)) := by
  have h6 := hA.1
  unfold zH at h6
  have hG := sG_le hA.1
  refine zMet (by decide) (Nat.le_of_ble_eq_true rfl) ?_
  show zX kX10_pouredIn 5 0 [some (.ref 38), some (.int (zii 99)), none, none] [] _ _
  refine Y_aload_0 i_X10_pouredIn_0 ?_
  refine Y_callVq (k' := kX10_thinks) i_X10_pouredIn_1 l_X10_207 m_X10_thinks c_X10_thinks rfl rfl rfl rfl rfl ?_
  intro r9 M9 hr9
  obtain ⟨rfl, K1, hk1, rfl⟩ := hr9
  refine X_tl0 ?_
  refine Y_aload_0 i_X10_pouredIn_4 ?_
  refine Y_getI i_X10_pouredIn_5 f_X10_161 rfl (zg0 _ _ _ _ _) ?_
  refine Y_istore_2 i_X10_pouredIn_8 rfl rfl ?_
  refine Y_aload_0 i_X10_pouredIn_9 ?_
  refine Y_iload_1 i_X10_pouredIn_10 ?_
  refine Y_callVv (k' := kX10_goes) i_X10_pouredIn_11 l_X10_107 m_X10_goes (c_X10_goes (t := 99) hA hS (by omega) (by omega)) rfl rfl rfl rfl rfl ?_
  refine Y_aload_0 i_X10_pouredIn_14 ?_
  refine Y_getI i_X10_pouredIn_15 f_X10_161 rfl (zg0 _ _ _ _ _) ?_
  refine Y_iload_2 i_X10_pouredIn_18 ?_
  refine X_isub i_X10_pouredIn_19 ?_
  refine Y_istore_3 i_X10_pouredIn_20 rfl rfl ?_
  refine Y_aload_0 i_X10_pouredIn_21 ?_
  refine Y_callVq (k' := kX10_forgets) i_X10_pouredIn_22 l_X10_210 m_X10_forgets (c_X10_forgets hk1.1) rfl rfl rfl rfl rfl ?_
  intro r9 M9 hr9
  obtain ⟨rfl, K2, hk2, rfl⟩ := hr9
  refine X_tl0 ?_
  refine Y_iload_3 i_X10_pouredIn_25 ?_
  refine X_iret i_X10_pouredIn_26 rfl ?_
  exact ⟨⟨_, rfl⟩, K2, hk1.2.tr hk2, rfl⟩
set_option maxRecDepth 100000 in
theorem c_X10_served {M N : zMem} {S K : zAft} (hA : zOk 999 (N 0)) (hS : zSv S) {x : Int} (h_x : zR x) : zCt kX10_served 6 [.ref 38, .int (zii x)] ((zs (zs (zs M 14 S) 13 K) 3 (N 0))) (zAy (w_served N x) (.int (zii (w_served N x))) (.int (zii (a_served N x))) (zs (zs (zs M 14 S) 13 K) 3 (N 0)) (zs (zs (zs M 14 S) 13 K) 3 (N 0))) := by
  have h6 := hA.1
  unfold zH at h6
  have hG := sG_le hA.1
  have b_x := h_x.1
  have c_x := h_x.2
  refine zMet (by decide) (Nat.le_of_ble_eq_true rfl) ?_
  show zX kX10_served 6 0 [some (.ref 38), some (.int (zii x))] [] _ _
  refine Y_iload_1 i_X10_served_0 ?_
  refine X_if_ge i_X10_served_1 (tgt := 11) rfl ⟨by omega, by omega⟩ (fun h1 => ?_) (fun h1 => ?_)
  · refine Y_aload_0 i_X10_served_11 ?_
    refine X_iconst i_X10_served_12 ?_
    refine Y_putI i_X10_served_13 f_X10_188 rfl t_7_25 (zp1 rfl (zp1 rfl (zp0 _ _ _ _ _ _))) ?_
    have hS0 : zSv (zwr S 1 0 0) := by unfold zSv; rw [zr0]; omega
    have hls := zLs_rs hA (S := zwr S 1 0 0) zr0 99
    have hl36 := sSl_36 hA 99
    have hl0 := hls.1
    refine Y_aload_0 i_X10_served_16 ?_
    refine X_bipush i_X10_served_17 (by decide +kernel) ?_
    refine Y_callVq (k' := kX10_pouredIn) i_X10_served_19 l_X10_234 m_X10_pouredIn (c_X10_pouredX hA hS0) rfl rfl rfl rfl rfl ?_
    intro r9 M9 hr9
    obtain ⟨⟨v9, rfl⟩, K9, hk9, rfl⟩ := hr9
    refine X_tl ?_
    refine X_pop i_X10_served_22 rfl ?_
    refine Y_iload_1 i_X10_served_23 ?_
    refine Y_aload_0 i_X10_served_24 ?_
    refine Y_getI i_X10_served_25 f_X10_188 rfl (zg1 rfl (zg1 rfl (zg0 _ _ _ _ _))) ?_
    refine X_icmp_ge i_X10_served_28 (tgt := 40) rfl ⟨by omega, by omega⟩ ⟨by omega, by omega⟩ (fun h28 => ?_) (fun h28 => ?_)
    · refine X_bipush i_X10_served_40 (by decide +kernel) ?_
      refine X_iret i_X10_served_42 rfl ?_
      exact zay0 (by unfold w_served; (try rw [sFb2_e]); repeat (first | omega | split)) (zvi (by unfold a_served sSv; obtain ⟨x9, rfl⟩ : ∃ t : Nat, x = t := ⟨x.toNat, by omega⟩; rw [Int.toNat_natCast]; exact (getD_no (by have := hls.1; omega)).symm)) (zey_s (sRS_in _ hS0 99) hk9.mo)
    · refine Y_aload_0 i_X10_served_31 ?_
      refine X_getR i_X10_served_32 f_X10_46 rfl ?_
      refine Y_iload_1 i_X10_served_35 ?_
      refine Y_iald i_X10_served_36 rfl ⟨by omega, by omega⟩ rfl (zg1 rfl (zg1 rfl (zg0 _ _ _ _ _))) ?_
      refine X_goto i_X10_served_37 (tgt := 42) rfl ?_
      refine X_iret i_X10_served_42 rfl ?_
      exact zay0 (by unfold w_served; (try rw [sFb2_e]); repeat (first | omega | split)) (zvi (by unfold a_served sSv; obtain ⟨x9, rfl⟩ : ∃ t : Nat, x = t := ⟨x.toNat, by omega⟩; rw [Int.toNat_natCast]; exact hls.2 x9 (by have := hls.1; omega))) (zey_s (sRS_in _ hS0 99) hk9.mo)
  · refine Y_aload_0 i_X10_served_4 ?_
    refine X_bipush i_X10_served_5 (by decide +kernel) ?_
    refine Y_callV (k' := kX10_no) i_X10_served_7 l_X10_75 m_X10_no (c_X10_no (by omega) (by omega)) rfl rfl rfl rfl rfl ?_
    refine X_iret i_X10_served_10 rfl ?_
    exact zay1 (by unfold w_served; (try rw [sFb2_e]); repeat (first | omega | split)) (by omega) hS
set_option maxRecDepth 100000 in
theorem c_X10_leaver {M N : zMem} {S K : zAft} (hA : zOk 999 (N 0)) (hS : zSv S) {x : Int} (h_x : zR x) : zCt kX10_leaver 4 [.ref 38, .int (zii x)] ((zs (zs (zs M 14 S) 13 K) 3 (N 0))) (zAy (w_leaver N x) (.int (zii (w_leaver N x))) (.int (zii (a_leaver N x))) (zs (zs (zs M 14 S) 13 K) 3 (N 0)) (zs (zs (zs M 14 S) 13 K) 3 (N 0))) := by
  have h6 := hA.1
  unfold zH at h6
  have hG := sG_le hA.1
  have b_x := h_x.1
  have c_x := h_x.2
  refine zMet (by decide) (Nat.le_of_ble_eq_true rfl) ?_
  show zX kX10_leaver 4 0 [some (.ref 38), some (.int (zii x)), none, none, none, none, none] [] _ _
  refine Y_iload_1 i_X10_leaver_0 ?_
  refine X_if_ge i_X10_leaver_1 (tgt := 11) rfl ⟨by omega, by omega⟩ (fun h1 => ?_) (fun h1 => ?_)
  · obtain ⟨x, rfl⟩ : ∃ t : Nat, x = t := ⟨x.toNat, by omega⟩
    refine Y_aload_0 i_X10_leaver_11 ?_
    refine Y_callV (k' := kX10_everybody) i_X10_leaver_12 l_X10_228 m_X10_everybody (c_X10_everybody (zs_self _ _ _) hA) rfl rfl rfl rfl rfl ?_
    refine Y_aload_0 i_X10_leaver_15 ?_
    refine X_iconst i_X10_leaver_16 ?_
    refine Y_callV (k' := kX10_whoAre) i_X10_leaver_17 l_X10_283 m_X10_whoAre (c_X10_whoAre (zs_self _ _ _) hA (zR_lit rfl)) rfl rfl rfl rfl rfl ?_
    refine X_iconst i_X10_leaver_20 ?_
    refine X_ixor i_X10_leaver_21 ?_
    refine X_iand i_X10_leaver_22 ?_
    refine Y_istore_2 i_X10_leaver_23 rfl rfl ?_
    refine Y_aload_0 i_X10_leaver_24 ?_
    refine Y_callVq (k' := kX10_thinks) i_X10_leaver_25 l_X10_207 m_X10_thinks c_X10_thinks rfl rfl rfl rfl rfl ?_
    intro r9 M9 hr9
    obtain ⟨rfl, K1, hk1, rfl⟩ := hr9
    refine X_tl0 ?_
    refine X_iconst i_X10_leaver_28 ?_
    refine Y_istore_3 i_X10_leaver_29 rfl rfl ?_
    refine X_bipush i_X10_leaver_30 (by decide +kernel) ?_
    refine Y_istore_4 i_X10_leaver_32 rfl rfl ?_
    refine X_iconst i_X10_leaver_34 ?_
    refine Y_istore_5 i_X10_leaver_35 rfl rfl ?_
    have loop : ∀ (n : Nat) (m : Nat) (tv mv fv : Int) (L : Option Value), m + n = 99 → zSe tv (fun u => u < sG (N 0) ∧ sRun (N 0) m 3 u ≠ 3) → mv = ((sLl (N 0) m).length : Int) → fv = (sLl (N 0) m).getD x (-9) → -9 ≤ fv → fv ≤ 5 → zX kX10_leaver 4 37 [some (.ref 38), some (.int (zii (x : Nat))), some (.int (zii tv)), some (.int (zii mv)), some (.int (zii fv)), some (.int (zii (m : Nat))), L] [] (zs (zs (zs M 14 (sRS (N 0) S m)) 13 K1) 3 (sRun (N 0) m)) (zAy (w_leaver N (x : Nat)) (.int (zii (w_leaver N (x : Nat)))) (.int (zii (a_leaver N (x : Nat)))) (zs (zs (zs M 14 S) 13 K) 3 (N 0)) (zs (zs (zs M 14 S) 13 K) 3 (N 0))) := by
      intro n
      induction n with
      | zero =>
        intro m tv mv fv L hg hse hmv hfv hf0 hf1
        obtain rfl : m = 99 := by omega
        refine Y_iload_5 i_X10_leaver_37 ?_
        refine X_bipush i_X10_leaver_39 (by decide +kernel) ?_
        refine X_icmp_ge i_X10_leaver_41 (tgt := 127) rfl ⟨by omega, by omega⟩ ⟨by omega, by omega⟩ (fun h41 => ?_) (fun h41 => by exfalso; omega)
        refine Y_aload_0 i_X10_leaver_127 ?_
        refine Y_callVq (k' := kX10_forgets) i_X10_leaver_128 l_X10_210 m_X10_forgets (c_X10_forgets hk1.1) rfl rfl rfl rfl rfl ?_
        intro r9 M9 hr9
        obtain ⟨rfl, K2, hk2, rfl⟩ := hr9
        refine X_tl0 ?_
        refine Y_iload_4 i_X10_leaver_131 ?_
        refine X_iret i_X10_leaver_133 rfl ?_
        exact zay0 (by unfold w_leaver; (try rw [sFb2_e]); repeat (first | omega | split)) (zvi (by unfold a_leaver sLe; rw [Int.toNat_natCast, hfv])) (zey_s (sRS_in _ hS _) (hk1.2.tr hk2).mo)
      | succ n ih =>
        intro m tv mv fv L hg hse hmv hfv hf0 hf1
        refine Y_iload_5 i_X10_leaver_37 ?_
        refine X_bipush i_X10_leaver_39 (by decide +kernel) ?_
        refine X_icmp_ge i_X10_leaver_41 (tgt := 127) rfl ⟨by omega, by omega⟩ ⟨by omega, by omega⟩ (fun h41 => by exfalso; omega) (fun h41 => ?_)
        refine Y_iload_4 i_X10_leaver_44 ?_
        refine X_if_ge i_X10_leaver_46 (tgt := 127) rfl ⟨by omega, by omega⟩ (fun h46 => ?_) (fun h46 => ?_)
        · refine Y_aload_0 i_X10_leaver_127 ?_
          refine Y_callVq (k' := kX10_forgets) i_X10_leaver_128 l_X10_210 m_X10_forgets (c_X10_forgets hk1.1) rfl rfl rfl rfl rfl ?_
          intro r9 M9 hr9
          obtain ⟨rfl, K2, hk2, rfl⟩ := hr9
          refine X_tl0 ?_
          refine Y_iload_4 i_X10_leaver_131 ?_
          refine X_iret i_X10_leaver_133 rfl ?_
          have hlt : x < (sLl (N 0) m).length := by
            rcases Nat.lt_or_ge x (sLl (N 0) m).length with h9 | h9
            · exact h9
            · rw [getD_no h9] at hfv; omega
          obtain ⟨l9, hl9⟩ := sLl_pre (N 0) (show m ≤ 99 by omega)
          exact zay0 (by unfold w_leaver; (try rw [sFb2_e]); repeat (first | omega | split)) (zvi (by unfold a_leaver sLe; rw [Int.toNat_natCast, hl9, getD_app1 hlt, hfv])) (zey_s (sRS_in _ hS _) (hk1.2.tr hk2).mo)
        · refine Y_aload_0 i_X10_leaver_49 ?_
          refine X_iconst i_X10_leaver_50 ?_
          refine Y_callVv (k' := kX10_goesMinute) i_X10_leaver_51 l_X10_197 m_X10_goesMinute (c_X10_goesMinute (sRun_ok hA m) (sRS_in _ hS m) (by omega)) rfl rfl rfl rfl rfl ?_
          refine X_iconst i_X10_leaver_54 ?_
          refine Y_istore_6 i_X10_leaver_55 rfl rfl ?_
          have inner : ∀ (d : Nat) (g : Nat) (tv mv fv : Int), g + d = sG (N 0) → zSe tv (fun u => u < sG (N 0) ∧ (u < g → sRun (N 0) (m + 1) 3 u ≠ 3) ∧ (g ≤ u → sRun (N 0) m 3 u ≠ 3)) → mv = ((sLl (N 0) m ++ sGl (sRun (N 0) m) (sRun (N 0) (m + 1)) g).length : Int) → fv = (sLl (N 0) m ++ sGl (sRun (N 0) m) (sRun (N 0) (m + 1)) g).getD x (-9) → -9 ≤ fv → fv ≤ 5 → zX kX10_leaver 4 57 [some (.ref 38), some (.int (zii (x : Nat))), some (.int (zii tv)), some (.int (zii mv)), some (.int (zii fv)), some (.int (zii (m : Nat))), some (.int (zii (g : Nat)))] [] (zs (zs (zs M 14 (sRS (N 0) S (m + 1))) 13 K1) 3 (sRun (N 0) (m + 1))) (zAy (w_leaver N (x : Nat)) (.int (zii (w_leaver N (x : Nat)))) (.int (zii (a_leaver N (x : Nat)))) (zs (zs (zs M 14 S) 13 K) 3 (N 0)) (zs (zs (zs M 14 S) 13 K) 3 (N 0))) := by
            intro d
            induction d with
            | zero =>
              intro g tv mv fv hg hse hmv hfv hf0 hf1
              obtain rfl : g = sG (N 0) := by omega
              have h60 : sRun (N 0) (m + 1) 6 0 = N 0 6 0 := sRun_6 _ _ (by decide) (by decide) _
              refine Y_iload_6 i_X10_leaver_57 ?_
              refine Y_aload_0 i_X10_leaver_59 ?_
              refine Y_getI i_X10_leaver_60 f_X10_65 rfl (zg0 _ _ _ _ _) ?_
              refine X_icmp_ge i_X10_leaver_63 (tgt := 121) rfl ⟨by omega, by omega⟩ ⟨by omega, by omega⟩ (fun h63 => ?_) (fun h63 => by exfalso; omega)
              refine Y_iinc_5 i_X10_leaver_121 rfl rfl ?_
              refine X_goto i_X10_leaver_124 (tgt := 37) rfl ?_
              have e9 : sLl (N 0) (m + 1) = sLl (N 0) m ++ sGl (sRun (N 0) m) (sRun (N 0) (m + 1)) (sG (N 0)) := rfl
              exact X_eq (ih (m + 1) tv mv fv (some (.int (zii ((sG (N 0) : Nat) : Int)))) (by omega) (hse.cg (fun u _ => ⟨fun z => ⟨z.1, z.2.1 z.1⟩, fun z => ⟨z.1, fun _ => z.2, fun y => absurd z.1 (by omega)⟩⟩)) (by rw [e9]; exact hmv) (by rw [e9]; exact hfv) hf0 hf1) (by simp) rfl rfl
            | succ d ih2 =>
              intro g tv mv fv hg hse hmv hfv hf0 hf1
              have h60 : sRun (N 0) (m + 1) 6 0 = N 0 6 0 := sRun_6 _ _ (by decide) (by decide) _
              have hOm := sRun_ok hA (m + 1)
              have hgg := hOm.2 g (by omega) (by omega)
              unfold zG at hgg
              have hbt := hse.bit (g := g) (by omega)
              have hlm := sLl_len (A := N 0) hG.1 m
              have hlg := sGl_len (sRun (N 0) m) (sRun (N 0) (m + 1)) g
              rw [List.length_append] at hmv
              refine Y_iload_6 i_X10_leaver_57 ?_
              refine Y_aload_0 i_X10_leaver_59 ?_
              refine Y_getI i_X10_leaver_60 f_X10_65 rfl (zg0 _ _ _ _ _) ?_
              refine X_icmp_ge i_X10_leaver_63 (tgt := 121) rfl ⟨by omega, by omega⟩ ⟨by omega, by omega⟩ (fun h63 => by exfalso; omega) (fun h63 => ?_)
              refine Y_iload_2 i_X10_leaver_66 ?_
              refine Y_iload_6 i_X10_leaver_67 ?_
              refine Y_callS (k' := kX10_has) i_X10_leaver_69 l_X10_216 m_X10_has c_X10_has rfl rfl rfl rfl ?_
              refine Y_ifq_eq i_X10_leaver_72 (tgt := 115) rfl  (fun h72 => ?_) (fun h72 => ?_)
              · refine Y_iinc_6 i_X10_leaver_115 rfl rfl ?_
                refine X_goto i_X10_leaver_118 (tgt := 57) rfl ?_
                have hno : ¬ (sRun (N 0) (m + 1) 3 g = 3 ∧ sRun (N 0) m 3 g ≠ 3) := fun z => h72 (hbt.mpr ⟨by omega, fun y => absurd y (by omega), fun _ => z.2⟩)
                rw [← List.length_append] at hmv
                rw [← sGl_no hG.1 m (show g < sG (N 0) by omega) hno] at hmv hfv
                exact X_eq (ih2 (g + 1) _ _ _ (by omega) (hse.cg (fun u _ => ⟨fun z => ⟨z.1, fun y => by
                  by_cases e : u = g
                  · subst e; exact absurd (hbt.mpr z) h72
                  · exact z.2.1 (by omega), fun y => z.2.2 (by omega)⟩, fun z => ⟨z.1, fun y => z.2.1 (by omega), fun y => by
                  by_cases e : u = g
                  · subst e; exact fun y9 => z.2.1 (by omega) (sRun_gone y9 (m + 1) (by omega))
                  · exact z.2.2 (by omega)⟩⟩)) hmv hfv hf0 hf1) (by simp) rfl rfl
              · refine Y_aload_0 i_X10_leaver_75 ?_
                refine X_getR i_X10_leaver_76 f_X10_22 rfl ?_
                refine Y_iload_6 i_X10_leaver_79 ?_
                refine Y_iald i_X10_leaver_81 rfl ⟨by omega, by omega⟩ rfl (zg0 _ _ _ _ _) ?_
                refine X_iconst i_X10_leaver_82 ?_
                refine X_icmp_eq i_X10_leaver_83 (tgt := 89) rfl ⟨by omega, by omega⟩ ⟨by omega, by omega⟩ (fun h83 => ?_) (fun h83 => ?_)
                · refine Y_iload_2 i_X10_leaver_89 ?_
                  refine X_iconst i_X10_leaver_90 ?_
                  refine Y_iload_6 i_X10_leaver_91 ?_
                  refine X_ishl i_X10_leaver_93 ?_
                  refine X_iconst i_X10_leaver_94 ?_
                  refine X_ixor i_X10_leaver_95 ?_
                  refine X_iand i_X10_leaver_96 ?_
                  refine Y_istore_2 i_X10_leaver_97 rfl rfl ?_
                  refine Y_iload_3 i_X10_leaver_98 ?_
                  refine Y_iload_1 i_X10_leaver_99 ?_
                  refine Y_icmp_ne i_X10_leaver_100 (tgt := 108) rfl ⟨by omega, by omega⟩ ⟨by omega, by omega⟩ (fun h100 => ?_) (fun h100 => ?_)
                  · refine Y_iload_4 i_X10_leaver_108 ?_
                    refine Y_istore_4 i_X10_leaver_110 rfl rfl ?_
                    refine Y_iinc_3 i_X10_leaver_112 rfl rfl ?_
                    refine Y_iinc_6 i_X10_leaver_115 rfl rfl ?_
                    refine X_goto i_X10_leaver_118 (tgt := 57) rfl ?_
                    have hyes : sRun (N 0) (m + 1) 3 g = 3 ∧ sRun (N 0) m 3 g ≠ 3 := ⟨h83, (hbt.mp h72).2.2 (by omega)⟩
                    rw [← List.length_append] at hmv
                    have hl2 := sGl_yes hG.1 m (show g < sG (N 0) by omega) hyes
                    exact X_eq (ih2 (g + 1) (zand tv (zxor (zshl 1 (g : Int)) (-1))) (mv + 1) fv (by omega) (hse.less (n := g) (by omega) (fun u _ => ⟨fun z => ⟨⟨z.1, fun y => z.2.1 (by omega), fun y => by
                      by_cases e : u = g
                      · subst e; exact hyes.2
                      · exact z.2.2 (by omega)⟩, fun e => by subst e; exact z.2.1 (by omega) hyes.1⟩, fun z => ⟨z.1.1, fun y => z.1.2.1 (by have := z.2; omega), fun y => z.1.2.2 (by omega)⟩⟩)) (by rw [hl2]; simp only [List.length_append, List.length_cons, List.length_nil] at hmv ⊢; omega) (by rw [hl2, ← List.append_assoc, getD_snoc, if_neg (by omega)]; exact hfv) (by omega) (by omega)) (by simp) rfl rfl
                  · refine Y_iload_6 i_X10_leaver_103 ?_
                    refine X_goto i_X10_leaver_105 (tgt := 110) rfl ?_
                    refine Y_istore_4 i_X10_leaver_110 rfl rfl ?_
                    refine Y_iinc_3 i_X10_leaver_112 rfl rfl ?_
                    refine Y_iinc_6 i_X10_leaver_115 rfl rfl ?_
                    refine X_goto i_X10_leaver_118 (tgt := 57) rfl ?_
                    have hyes : sRun (N 0) (m + 1) 3 g = 3 ∧ sRun (N 0) m 3 g ≠ 3 := ⟨h83, (hbt.mp h72).2.2 (by omega)⟩
                    rw [← List.length_append] at hmv
                    have hl2 := sGl_yes hG.1 m (show g < sG (N 0) by omega) hyes
                    exact X_eq (ih2 (g + 1) (zand tv (zxor (zshl 1 (g : Int)) (-1))) (mv + 1) (g : Int) (by omega) (hse.less (n := g) (by omega) (fun u _ => ⟨fun z => ⟨⟨z.1, fun y => z.2.1 (by omega), fun y => by
                      by_cases e : u = g
                      · subst e; exact hyes.2
                      · exact z.2.2 (by omega)⟩, fun e => by subst e; exact z.2.1 (by omega) hyes.1⟩, fun z => ⟨z.1.1, fun y => z.1.2.1 (by have := z.2; omega), fun y => z.1.2.2 (by omega)⟩⟩)) (by rw [hl2]; simp only [List.length_append, List.length_cons, List.length_nil] at hmv ⊢; omega) (by rw [hl2, ← List.append_assoc, getD_snoc, if_pos (by omega)]) (by omega) (by omega)) (by simp) rfl rfl
                · refine X_goto i_X10_leaver_86 (tgt := 115) rfl ?_
                  refine Y_iinc_6 i_X10_leaver_115 rfl rfl ?_
                  refine X_goto i_X10_leaver_118 (tgt := 57) rfl ?_
                  have hno : ¬ (sRun (N 0) (m + 1) 3 g = 3 ∧ sRun (N 0) m 3 g ≠ 3) := fun z => h83 z.1
                  rw [← List.length_append] at hmv
                  rw [← sGl_no hG.1 m (show g < sG (N 0) by omega) hno] at hmv hfv
                  exact X_eq (ih2 (g + 1) _ _ _ (by omega) (hse.cg (fun u _ => ⟨fun z => ⟨z.1, fun y => by
                    by_cases e : u = g
                    · subst e; exact h83
                    · exact z.2.1 (by omega), fun y => z.2.2 (by omega)⟩, fun z => ⟨z.1, fun y => z.2.1 (by omega), fun y => by
                    by_cases e : u = g
                    · subst e; exact (hbt.mp h72).2.2 (by omega)
                    · exact z.2.2 (by omega)⟩⟩)) hmv hfv hf0 hf1) (by simp) rfl rfl
          exact inner (sG (N 0)) 0 _ _ _ (by omega) (hse.cg (fun u _ => ⟨fun z => ⟨z.1, fun y => absurd y (by omega), fun _ => z.2⟩, fun z => ⟨z.1, z.2.2 (by omega)⟩⟩)) (by simp only [sGl, List.append_nil]; exact hmv) (by simp only [sGl, List.append_nil]; exact hfv) hf0 hf1
    have hev := everybody_se (sG (N 0)) hG.1
    rw [hG.2] at hev
    exact loop 99 0 _ 0 (-9) _ (by omega) ((hev.del (sSet_se (N 0) 3 hG.1)).cg (fun u _ => ⟨fun z => ⟨z.1, fun y => z.2 ⟨z.1, y⟩⟩, fun z => ⟨z.1, fun y => z.2 y.2⟩⟩)) rfl rfl (by omega) (by omega)
  · refine Y_aload_0 i_X10_leaver_4 ?_
    refine X_bipush i_X10_leaver_5 (by decide +kernel) ?_
    refine Y_callV (k' := kX10_no) i_X10_leaver_7 l_X10_75 m_X10_no (c_X10_no (by omega) (by omega)) rfl rfl rfl rfl rfl ?_
    refine X_iret i_X10_leaver_10 rfl ?_
    exact zay1 (by unfold w_leaver; (try rw [sFb2_e]); repeat (first | omega | split)) (by omega) hS
set_option maxRecDepth 100000 in
theorem c_X10_look {M N : zMem} {S K W : zAft} (hA : zOk 999 (N 0)) (hS : zSv S) {x : Int} (h_x : zR x) {w : Int} (h_w : zR w) : zCt kX10_look 4 [.ref 38, .int (zii x), .int (zii w)] ((zs (zs (zs (zs M 16 W) 14 S) 13 K) 3 (N 0))) (zAy (w_look N x w) (.int (zii (w_look N x w))) (.int (zii (a_look N x w))) (zs (zs (zs (zs M 16 W) 14 S) 13 K) 3 (N 0)) (zs (zs (zs (zs M 16 W) 14 S) 13 K) 3 (N 0))) := by
  have h6 := hA.1
  unfold zH at h6
  have hG := sG_le hA.1
  have b_x := h_x.1
  have c_x := h_x.2
  have b_w := h_w.1
  have c_w := h_w.2
  refine zMet (by decide) (Nat.le_of_ble_eq_true rfl) ?_
  show zX kX10_look 4 0 [some (.ref 38), some (.int (zii x)), some (.int (zii w)), none, none, none, none] [] _ _
  refine Y_aload_0 i_X10_look_0 ?_
  refine Y_iload_1 i_X10_look_1 ?_
  refine Y_callV (k' := kX10_isGuest) i_X10_look_2 l_X10_111 m_X10_isGuest (c_X10_isGuest (zs_self _ _ _) hA ⟨by omega, by omega⟩) rfl rfl rfl rfl rfl ?_
  refine Y_ifq_ne i_X10_look_5 (tgt := 12) rfl  (fun h5 => ?_) (fun h5 => ?_)
  · refine Y_iload_2 i_X10_look_12 ?_
    refine X_iconst i_X10_look_13 ?_
    refine X_iconst i_X10_look_14 ?_
    refine Y_callS (k' := kX10_isIn) i_X10_look_15 l_X10_86 m_X10_isIn (c_X10_isIn ⟨by omega, by omega⟩ (zR_lit rfl) (zR_lit rfl)) rfl rfl rfl rfl ?_
    refine Y_ifq_ne i_X10_look_18 (tgt := 26) rfl  (fun h18 => ?_) (fun h18 => ?_)
    · refine X_iconst i_X10_look_26 ?_
      refine Y_istore_3 i_X10_look_27 rfl rfl ?_
      refine Y_iload_3 i_X10_look_28 ?_
      refine X_if_eq i_X10_look_29 (tgt := 38) rfl ⟨by omega, by omega⟩ (fun h29 => ?_) (fun h29 => by exfalso; omega)
      refine X_iconst i_X10_look_38 ?_
      refine Y_istore_4 i_X10_look_39 rfl rfl ?_
      have loop3 : ∀ (n : Nat) (i : Nat) (T R W1 : zAft), i + n = 30 → zSv T → zKe 42 K R → (∀ u : Nat, u < 31 → W1 0 u = sLb (N 0) x u 6) → zX kX10_look 4 155 [some (.ref 38), some (.int (zii x)), some (.int (zii w)), some (.int (zii 0)), some (.int (zii (N 0 0 x))), some (.int (zii (sBb (sFb (N 0) x) i : Nat))), some (.int (zii ((i : Int) + 1)))] [] (zs (zs (zs (zs M 16 W1) 14 T) 13 R) 3 (N 0)) (zAy (w_look N x w) (.int (zii (w_look N x w))) (.int (zii (a_look N x w))) (zs (zs (zs (zs M 16 W) 14 S) 13 K) 3 (N 0)) (zs (zs (zs (zs M 16 W) 14 S) 13 K) 3 (N 0))) := by
        intro n
        induction n with
        | zero =>
          intro i T R W1 hg hT hR hw1
          obtain rfl : i = 30 := by omega
          have hbl := sBb_le (sFb (N 0) x) 30
          have hwb := hw1 (sBb (sFb (N 0) x) 30) (by omega)
          refine Y_iload_6 i_X10_look_155 ?_
          refine X_bipush i_X10_look_157 (by decide +kernel) ?_
          refine X_icmp_ge i_X10_look_159 (tgt := 200) rfl ⟨by omega, by omega⟩ ⟨by omega, by omega⟩ (fun h159 => ?_) (fun h159 => by exfalso; omega)
          refine Y_iload_2 i_X10_look_200 ?_
          refine Y_if_ne i_X10_look_201 (tgt := 209) rfl ⟨by omega, by omega⟩ (fun h201 => ?_) (fun h201 => ?_)
          · refine Y_aload_0 i_X10_look_209 ?_
            refine X_getR i_X10_look_210 f_X10_52 rfl ?_
            refine Y_iload_5 i_X10_look_213 ?_
            refine Y_iald i_X10_look_215 rfl ⟨by omega, by omega⟩ rfl (zg1 rfl (zg1 rfl (zg1 rfl (zg0 _ _ _ _ _)))) ?_
            rw [hwb]
            refine Y_callS (k' := kX10_bits) i_X10_look_216 l_X10_269 m_X10_bits c_X10_bits rfl rfl rfl rfl ?_
            refine X_iret i_X10_look_219 rfl ?_
            exact zay0 (by unfold w_look; (try rw [sFb2_e]); repeat (first | omega | split)) (zvi (by unfold a_look; rw [if_neg h201]; first | done | rfl)) (zey_b (Or.inr (Or.inl rfl)) hT hR)
          · refine Y_iload_5 i_X10_look_204 ?_
            refine X_goto i_X10_look_206 (tgt := 219) rfl ?_
            refine X_iret i_X10_look_219 rfl ?_
            exact zay0 (by unfold w_look; (try rw [sFb2_e]); repeat (first | omega | split)) (zvi (by unfold a_look; rw [if_pos h201]; first | done | rfl)) (zey_b (Or.inr (Or.inl rfl)) hT hR)
        | succ n ih =>
          intro i T R W1 hg hT hR hw1
          have hbl := sBb_le (sFb (N 0) x) i
          have hwb := hw1 (sBb (sFb (N 0) x) i) (by omega)
          have hwi := hw1 (i + 1) (by omega)
          rw [Int.natCast_add] at hwi
          have hb1 := sBts_in (sLb (N 0) x (i + 1) 6) 31
          have hb2 := sBts_in (sLb (N 0) x (sBb (sFb (N 0) x) i) 6) 31
          refine Y_iload_6 i_X10_look_155 ?_
          refine X_bipush i_X10_look_157 (by decide +kernel) ?_
          refine X_icmp_ge i_X10_look_159 (tgt := 200) rfl ⟨by omega, by omega⟩ ⟨by omega, by omega⟩ (fun h159 => by exfalso; omega) (fun h159 => ?_)
          refine Y_aload_0 i_X10_look_162 ?_
          refine X_getR i_X10_look_163 f_X10_52 rfl ?_
          refine Y_iload_6 i_X10_look_166 ?_
          refine Y_iald i_X10_look_168 rfl ⟨by omega, by omega⟩ rfl (zg1 rfl (zg1 rfl (zg1 rfl (zg0 _ _ _ _ _)))) ?_
          rw [show W1 0 ((i : Int) + 1) = sLb (N 0) x (i + 1) 6 from hwi]
          refine Y_callS (k' := kX10_bits) i_X10_look_169 l_X10_269 m_X10_bits c_X10_bits rfl rfl rfl rfl ?_
          refine Y_aload_0 i_X10_look_172 ?_
          refine X_getR i_X10_look_173 f_X10_52 rfl ?_
          refine Y_iload_5 i_X10_look_176 ?_
          refine Y_iald i_X10_look_178 rfl ⟨by omega, by omega⟩ rfl (zg1 rfl (zg1 rfl (zg1 rfl (zg0 _ _ _ _ _)))) ?_
          rw [hwb]
          refine Y_callS (k' := kX10_bits) i_X10_look_179 l_X10_269 m_X10_bits c_X10_bits rfl rfl rfl rfl ?_
          refine X_icmp_le i_X10_look_182 (tgt := 190) rfl ⟨by omega, by omega⟩ ⟨by omega, by omega⟩ (fun h182 => ?_) (fun h182 => ?_)
          · refine Y_iload_5 i_X10_look_190 ?_
            refine Y_istore_5 i_X10_look_192 rfl rfl ?_
            refine Y_iinc_6 i_X10_look_194 rfl rfl ?_
            refine X_goto i_X10_look_197 (tgt := 155) rfl ?_
            have hs9 : sBb (sFb (N 0) x) (i + 1) = sBb (sFb (N 0) x) i := by
              show (if sFb (N 0) x (sBb (sFb (N 0) x) i) < sFb (N 0) x (i + 1) then i + 1 else sBb (sFb (N 0) x) i) = _
              rw [if_neg (by show ¬ (sBts (sLb (N 0) x (sBb (sFb (N 0) x) i) 6) 31 < sBts (sLb (N 0) x (i + 1) 6) 31); omega)]
            exact X_eq (ih (i + 1) T R W1 (by omega) hT hR hw1) (by rw [hs9]; simp) rfl rfl
          · refine Y_iload_6 i_X10_look_185 ?_
            refine X_goto i_X10_look_187 (tgt := 192) rfl ?_
            refine Y_istore_5 i_X10_look_192 rfl rfl ?_
            refine Y_iinc_6 i_X10_look_194 rfl rfl ?_
            refine X_goto i_X10_look_197 (tgt := 155) rfl ?_
            have hs9 : sBb (sFb (N 0) x) (i + 1) = i + 1 := by
              show (if sFb (N 0) x (sBb (sFb (N 0) x) i) < sFb (N 0) x (i + 1) then i + 1 else sBb (sFb (N 0) x) i) = _
              rw [if_pos (by show sBts (sLb (N 0) x (sBb (sFb (N 0) x) i) 6) 31 < sBts (sLb (N 0) x (i + 1) 6) 31; omega)]
            exact X_eq (ih (i + 1) T R W1 (by omega) hT hR hw1) (by rw [hs9]; simp) rfl rfl
      have loop2 : ∀ (n : Nat) (k : Nat) (T R W1 : zAft) (L6 : Option Value) (c : Int), k + n = 6 → zSv T → zKe 42 K R → (∀ u : Nat, u < 31 → W1 0 u = sLb (N 0) x u k) → zX kX10_look 4 73 [some (.ref 38), some (.int (zii x)), some (.int (zii w)), some (.int (zii 0)), some (.int (zii (N 0 0 x))), some (.int (zii k)), L6] [] (zs (zs (zs (zs M 16 W1) 14 T) 13 R) 3 (zwr (N 0) 0 x c)) (zAy (w_look N x w) (.int (zii (w_look N x w))) (.int (zii (a_look N x w))) (zs (zs (zs (zs M 16 W) 14 S) 13 K) 3 (N 0)) (zs (zs (zs (zs M 16 W) 14 S) 13 K) 3 (N 0))) := by
        intro n
        induction n with
        | zero =>
          intro k T R W1 L6 c hg hT hR hw1
          obtain rfl : k = 6 := by omega
          refine Y_iload_5 i_X10_look_73 ?_
          refine X_bipush i_X10_look_75 (by decide +kernel) ?_
          refine X_icmp_ge i_X10_look_77 (tgt := 141) rfl ⟨by omega, by omega⟩ ⟨by omega, by omega⟩ (fun h77 => ?_) (fun h77 => by exfalso; omega)
          refine Y_aload_0 i_X10_look_141 ?_
          refine X_getR i_X10_look_142 f_X10_13 rfl ?_
          refine Y_iload_1 i_X10_look_145 ?_
          refine Y_iload_4 i_X10_look_146 ?_
          refine Y_iast i_X10_look_148 rfl ⟨by omega, by omega⟩ rfl (zp0 _ _ _ _ _ _) ?_
          rw [zwr_w, zwr_id]
          refine X_iconst i_X10_look_149 ?_
          refine Y_istore_5 i_X10_look_150 rfl rfl ?_
          refine X_iconst i_X10_look_152 ?_
          refine Y_istore_6 i_X10_look_153 rfl rfl ?_
          exact X_eq (loop3 30 0 T R W1 (by omega) hT hR (fun u hu => hw1 u hu)) (by rfl) rfl rfl
        | succ n ih =>
          intro k T R W1 L6 c hg hT hR hw1
          have hre : sRe (N 0) x 0 (k : Int) = (zwr (N 0) 0 x (k : Int)) := by unfold sRe; rw [if_pos rfl]
          have hB : zOk 999 (zwr (N 0) 0 x (k : Int)) := by rw [← hre]; exact sRe_ok hA (by omega) (by omega) ⟨by omega, fun _ => by omega, fun z => absurd z (by decide), by omega⟩
          refine Y_iload_5 i_X10_look_73 ?_
          refine X_bipush i_X10_look_75 (by decide +kernel) ?_
          refine X_icmp_ge i_X10_look_77 (tgt := 141) rfl ⟨by omega, by omega⟩ ⟨by omega, by omega⟩ (fun h77 => by exfalso; omega) (fun h77 => ?_)
          refine Y_aload_0 i_X10_look_80 ?_
          refine X_getR i_X10_look_81 f_X10_13 rfl ?_
          refine Y_iload_1 i_X10_look_84 ?_
          refine Y_iload_5 i_X10_look_85 ?_
          refine Y_iast i_X10_look_87 rfl ⟨by omega, by omega⟩ rfl (zp0 _ _ _ _ _ _) ?_
          rw [zwr_w]
          refine Y_aload_0 i_X10_look_88 ?_
          refine Y_callVq (k' := kX10_thinks) i_X10_look_89 l_X10_207 m_X10_thinks c_X10_thinks rfl rfl rfl rfl rfl ?_
          intro r9 M9 hr9
          obtain ⟨rfl, K1, hk1, rfl⟩ := hr9
          refine X_tl0 ?_
          refine X_iconst i_X10_look_92 ?_
          refine Y_istore_6 i_X10_look_93 rfl rfl ?_
          have inner : ∀ (d : Nat) (j : Nat) (W2 : zAft), j + d = 31 → (∀ u : Nat, u < j → W2 0 u = sLb (N 0) x u (k + 1)) → (∀ u : Nat, j ≤ u → u < 31 → W2 0 u = sLb (N 0) x u k) → zX kX10_look 4 95 [some (.ref 38), some (.int (zii x)), some (.int (zii w)), some (.int (zii 0)), some (.int (zii (N 0 0 x))), some (.int (zii k)), some (.int (zii j))] [] (zs (zs (zs (zs M 16 W2) 14 (sRS (zwr (N 0) 0 x (k : Int)) T j)) 13 K1) 3 (sRun (zwr (N 0) 0 x (k : Int)) j)) (zAy (w_look N x w) (.int (zii (w_look N x w))) (.int (zii (a_look N x w))) (zs (zs (zs (zs M 16 W) 14 S) 13 K) 3 (N 0)) (zs (zs (zs (zs M 16 W) 14 S) 13 K) 3 (N 0))) := by
            intro d
            induction d with
            | zero =>
              intro j W2 hg hw2 hw3
              obtain rfl : j = 31 := by omega
              refine Y_iload_6 i_X10_look_95 ?_
              refine X_bipush i_X10_look_97 (by decide +kernel) ?_
              refine X_icmp_ge i_X10_look_99 (tgt := 131) rfl ⟨by omega, by omega⟩ ⟨by omega, by omega⟩ (fun h99 => ?_) (fun h99 => by exfalso; omega)
              refine Y_aload_0 i_X10_look_131 ?_
              refine Y_callVq (k' := kX10_forgets) i_X10_look_132 l_X10_210 m_X10_forgets (c_X10_forgets hk1.1) rfl rfl rfl rfl rfl ?_
              intro r9 M9 hr9
              obtain ⟨rfl, K2, hk2, rfl⟩ := hr9
              refine X_tl0 ?_
              refine Y_iinc_5 i_X10_look_135 rfl rfl ?_
              refine X_goto i_X10_look_138 (tgt := 73) rfl ?_
              exact X_eq (ih (k + 1) _ K2 W2 (some (.int (zii ((31 : Nat) : Int)))) _ (by omega) (sRS_in _ hT 31) ((hR.tr hk1.2.mo).tr hk2.mo) (fun u hu => hw2 u hu)) (by simp) rfl rfl
            | succ d ih2 =>
              intro j W2 hg hw2 hw3
              have hOj := sRun_ok hB j
              have hgg := hOj.2 x (by omega) (by omega)
              unfold zG at hgg
              refine Y_iload_6 i_X10_look_95 ?_
              refine X_bipush i_X10_look_97 (by decide +kernel) ?_
              refine X_icmp_ge i_X10_look_99 (tgt := 131) rfl ⟨by omega, by omega⟩ ⟨by omega, by omega⟩ (fun h99 => by exfalso; omega) (fun h99 => ?_)
              refine Y_aload_0 i_X10_look_102 ?_
              refine X_getR i_X10_look_103 f_X10_52 rfl ?_
              refine Y_iload_6 i_X10_look_106 ?_
              refine X_dup2 i_X10_look_108 rfl rfl ?_
              refine Y_iald i_X10_look_109 rfl ⟨by omega, by omega⟩ rfl (zg1 rfl (zg1 rfl (zg1 rfl (zg0 _ _ _ _ _)))) ?_
              refine X_iconst i_X10_look_110 ?_
              refine Y_aload_0 i_X10_look_111 ?_
              refine X_getR i_X10_look_112 f_X10_22 rfl ?_
              refine Y_iload_1 i_X10_look_115 ?_
              refine Y_iald i_X10_look_116 rfl ⟨by omega, by omega⟩ rfl (zg0 _ _ _ _ _) ?_
              refine X_ishl i_X10_look_117 ?_
              refine X_ior i_X10_look_118 ?_
              refine Y_iast i_X10_look_119 rfl ⟨by omega, by omega⟩ rfl (zp1 rfl (zp1 rfl (zp1 rfl (zp0 _ _ _ _ _ _)))) ?_
              refine Y_aload_0 i_X10_look_120 ?_
              refine X_iconst i_X10_look_121 ?_
              refine Y_callVv (k' := kX10_goesMinute) i_X10_look_122 l_X10_197 m_X10_goesMinute (c_X10_goesMinute hOj (sRS_in _ hT j) (by omega)) rfl rfl rfl rfl rfl ?_
              refine Y_iinc_6 i_X10_look_125 rfl rfl ?_
              refine X_goto i_X10_look_128 (tgt := 95) rfl ?_
              exact X_eq (ih2 (j + 1) _ (by omega) (fun u hu => by
                by_cases e : u = j
                · subst e
                  refine zr0.trans ?_
                  rw [hw3 u (Nat.le_refl u) (by omega)]
                  simp only [sLb]; rw [hre]
                · exact zr2 (by omega) (hw2 u (by omega))) (fun u hu hu2 => zr2 (by omega) (hw3 u (by omega) hu2))) (by simp) rfl rfl
          exact inner 31 0 W1 (by omega) (fun u hu => absurd hu (by omega)) (fun u _ hu => hw1 u hu)
      have loop1 : ∀ (n : Nat) (j : Nat) (W1 : zAft) (L5 L6 : Option Value), j + n = 31 → (∀ u : Nat, u < j → W1 0 u = 0) → zX kX10_look 4 41 [some (.ref 38), some (.int (zii x)), some (.int (zii w)), some (.int (zii 0)), some (.int (zii j)), L5, L6] [] (zs (zs (zs (zs M 16 W1) 14 S) 13 K) 3 (N 0)) (zAy (w_look N x w) (.int (zii (w_look N x w))) (.int (zii (a_look N x w))) (zs (zs (zs (zs M 16 W) 14 S) 13 K) 3 (N 0)) (zs (zs (zs (zs M 16 W) 14 S) 13 K) 3 (N 0))) := by
        intro n
        induction n with
        | zero =>
          intro j W1 L5 L6 hg hw1
          obtain rfl : j = 31 := by omega
          refine Y_iload_4 i_X10_look_41 ?_
          refine X_bipush i_X10_look_43 (by decide +kernel) ?_
          refine X_icmp_ge i_X10_look_45 (tgt := 62) rfl ⟨by omega, by omega⟩ ⟨by omega, by omega⟩ (fun h45 => ?_) (fun h45 => by exfalso; omega)
          refine Y_aload_0 i_X10_look_62 ?_
          refine X_getR i_X10_look_63 f_X10_13 rfl ?_
          refine Y_iload_1 i_X10_look_66 ?_
          refine Y_iald i_X10_look_67 rfl ⟨by omega, by omega⟩ rfl (zg0 _ _ _ _ _) ?_
          refine Y_istore_4 i_X10_look_68 rfl rfl ?_
          refine X_iconst i_X10_look_70 ?_
          refine Y_istore_5 i_X10_look_71 rfl rfl ?_
          exact X_eq (X_mm (M' := (zs (zs (zs (zs M 16 W1) 14 S) 13 K) 3 (zwr (N 0) 0 x (N 0 0 x)))) (by rw [zwr_id]) (loop2 6 0 S K W1 _ _ (by omega) hS zKe.rf (fun u hu => hw1 u hu))) (by rfl) rfl rfl
        | succ n ih =>
          intro j W1 L5 L6 hg hw1
          refine Y_iload_4 i_X10_look_41 ?_
          refine X_bipush i_X10_look_43 (by decide +kernel) ?_
          refine X_icmp_ge i_X10_look_45 (tgt := 62) rfl ⟨by omega, by omega⟩ ⟨by omega, by omega⟩ (fun h45 => by exfalso; omega) (fun h45 => ?_)
          refine Y_aload_0 i_X10_look_48 ?_
          refine X_getR i_X10_look_49 f_X10_52 rfl ?_
          refine Y_iload_4 i_X10_look_52 ?_
          refine X_iconst i_X10_look_54 ?_
          refine Y_iast i_X10_look_55 rfl ⟨by omega, by omega⟩ rfl (zp1 rfl (zp1 rfl (zp1 rfl (zp0 _ _ _ _ _ _)))) ?_
          refine Y_iinc_4 i_X10_look_56 rfl rfl ?_
          refine X_goto i_X10_look_59 (tgt := 41) rfl ?_
          exact X_eq (ih (j + 1) _ L5 L6 (by omega) (fun u hu => by
            by_cases e : u = j
            · subst e; exact zr0
            · exact zr2 (by omega) (hw1 u (by omega)))) (by simp) rfl rfl
      exact loop1 31 0 W _ _ (by omega) (fun u hu => absurd hu (by omega))
    · refine X_bipush i_X10_look_21 (by decide +kernel) ?_
      refine X_goto i_X10_look_23 (tgt := 27) rfl ?_
      refine Y_istore_3 i_X10_look_27 rfl rfl ?_
      refine Y_iload_3 i_X10_look_28 ?_
      refine X_if_eq i_X10_look_29 (tgt := 38) rfl ⟨by omega, by omega⟩ (fun h29 => by exfalso; omega) (fun h29 => ?_)
      refine Y_aload_0 i_X10_look_32 ?_
      refine Y_iload_3 i_X10_look_33 ?_
      refine Y_callV (k' := kX10_no) i_X10_look_34 l_X10_75 m_X10_no (c_X10_no (by omega) (by omega)) rfl rfl rfl rfl rfl ?_
      refine X_iret i_X10_look_37 rfl ?_
      exact zay1 (by unfold w_look; (try rw [sFb2_e]); repeat (first | omega | split)) (by omega) hS
  · refine X_iconst i_X10_look_8 ?_
    refine X_goto i_X10_look_9 (tgt := 27) rfl ?_
    refine Y_istore_3 i_X10_look_27 rfl rfl ?_
    refine Y_iload_3 i_X10_look_28 ?_
    refine X_if_eq i_X10_look_29 (tgt := 38) rfl ⟨by omega, by omega⟩ (fun h29 => by exfalso; omega) (fun h29 => ?_)
    refine Y_aload_0 i_X10_look_32 ?_
    refine Y_iload_3 i_X10_look_33 ?_
    refine Y_callV (k' := kX10_no) i_X10_look_34 l_X10_75 m_X10_no (c_X10_no (by omega) (by omega)) rfl rfl rfl rfl rfl ?_
    refine X_iret i_X10_look_37 rfl ?_
    exact zay1 (by unfold w_look; (try rw [sFb2_e]); repeat (first | omega | split)) (by omega) hS
theorem sLw_spec (f : Nat → Int) (hf : ∀ g, 0 ≤ f g) : ∀ i : Nat, ∃ b : Nat, b ≤ i ∧ sLw f (i + 1) = b ∧ sLm f (i + 1) = f b := by
  intro i
  induction i with
  | zero =>
    have := hf 0
    refine ⟨0, Nat.le_refl 0, ?_, ?_⟩
    · show (if -9 < f 0 then ((0 : Nat) : Int) else -9) = _; rw [if_pos (by omega)]
    · show (if -9 < f 0 then f 0 else -9) = _; rw [if_pos (by omega)]
  | succ i ih =>
    obtain ⟨b, h1, h2, h3⟩ := ih
    by_cases e : sLm f (i + 1) < f (i + 1)
    · exact ⟨i + 1, Nat.le_refl _, by show (if sLm f (i + 1) < f (i + 1) then ((i + 1 : Nat) : Int) else sLw f (i + 1)) = _; rw [if_pos e], by show (if sLm f (i + 1) < f (i + 1) then f (i + 1) else sLm f (i + 1)) = _; rw [if_pos e]⟩
    · exact ⟨b, by omega, by show (if sLm f (i + 1) < f (i + 1) then ((i + 1 : Nat) : Int) else sLw f (i + 1)) = _; rw [if_neg e, h2], by show (if sLm f (i + 1) < f (i + 1) then f (i + 1) else sLm f (i + 1)) = _; rw [if_neg e, h3]⟩
set_option maxRecDepth 100000 in
theorem c_X10_longest {M N : zMem} {S K W : zAft} (hA : zOk 999 (N 0)) (hS : zSv S) {n : Int} (h_n : zR n) {w : Int} (h_w : zR w) : zCt kX10_longest 4 [.ref 38, .int (zii n), .int (zii w)] ((zs (zs (zs (zs M 17 W) 14 S) 13 K) 3 (N 0))) (zAy (w_longest N n w) (.int (zii (w_longest N n w))) (.int (zii (a_longest N n w))) (zs (zs (zs (zs M 17 W) 14 S) 13 K) 3 (N 0)) (zs (zs (zs (zs M 17 W) 14 S) 13 K) 3 (N 0))) := by
  have h6 := hA.1
  unfold zH at h6
  have hG := sG_le hA.1
  have b_n := h_n.1
  have c_n := h_n.2
  have b_w := h_w.1
  have c_w := h_w.2
  have hfa := sFa_in n
  refine zMet (by decide) (Nat.le_of_ble_eq_true rfl) ?_
  show zX kX10_longest 4 0 [some (.ref 38), some (.int (zii n)), some (.int (zii w)), none, none, none] [] _ _
  refine Y_iload_1 i_X10_longest_0 ?_
  refine Y_callS (k' := kX10_notMinutes) i_X10_longest_1 l_X10_204 m_X10_notMinutes (c_X10_notMinutes ⟨by omega, by omega⟩) rfl rfl rfl rfl ?_
  refine Y_istore_3 i_X10_longest_4 rfl rfl ?_
  refine Y_iload_3 i_X10_longest_5 ?_
  refine Y_if_ne i_X10_longest_6 (tgt := 21) rfl ⟨by omega, by omega⟩ (fun h6 => ?_) (fun h6 => ?_)
  · refine Y_iload_3 i_X10_longest_21 ?_
    refine X_if_eq i_X10_longest_22 (tgt := 31) rfl ⟨by omega, by omega⟩ (fun h22 => ?_) (fun h22 => ?_)
    · refine Y_aload_0 i_X10_longest_31 ?_
      obtain ⟨t, rfl⟩ : ∃ t : Nat, n = t := ⟨n.toNat, by omega⟩
      refine Y_callVq (k' := kX10_thinks) i_X10_longest_32 l_X10_207 m_X10_thinks c_X10_thinks rfl rfl rfl rfl rfl ?_
      intro r9 M9 hr9
      obtain ⟨rfl, K1, hk1, rfl⟩ := hr9
      refine X_tl0 ?_
      refine X_iconst i_X10_longest_35 ?_
      refine Y_istore_4 i_X10_longest_36 rfl rfl ?_
      have loop2 : ∀ (n : Nat) (k : Nat) (W1 : zAft) (L5 : Option Value), k + n = t → (∀ u : Nat, u < sG (N 0) → W1 0 u = sMS (N 0) k u) → zX kX10_longest 4 62 [some (.ref 38), some (.int (zii (t : Nat))), some (.int (zii w)), some (.int (zii (sFa (t : Nat)))), some (.int (zii k)), L5] [] (zs (zs (zs (zs M 17 W1) 14 (sRS (N 0) S k)) 13 K1) 3 (sRun (N 0) k)) (zAy (w_longest N (t : Nat) w) (.int (zii (w_longest N (t : Nat) w))) (.int (zii (a_longest N (t : Nat) w))) (zs (zs (zs (zs M 17 W) 14 S) 13 K) 3 (N 0)) (zs (zs (zs (zs M 17 W) 14 S) 13 K) 3 (N 0))) := by
        intro n
        induction n with
        | zero =>
          intro k W1 L5 hg hw1
          obtain rfl : t = k := by omega
          refine Y_iload_4 i_X10_longest_62 ?_
          refine Y_iload_1 i_X10_longest_64 ?_
          refine X_icmp_ge i_X10_longest_65 (tgt := 123) rfl ⟨by omega, by omega⟩ ⟨by omega, by omega⟩ (fun h65 => ?_) (fun h65 => by exfalso; omega)
          refine Y_aload_0 i_X10_longest_123 ?_
          refine Y_callVq (k' := kX10_forgets) i_X10_longest_124 l_X10_210 m_X10_forgets (c_X10_forgets hk1.1) rfl rfl rfl rfl rfl ?_
          intro r9 M9 hr9
          obtain ⟨rfl, K2, hk2, rfl⟩ := hr9
          refine X_tl0 ?_
          refine Y_aload_0 i_X10_longest_127 ?_
          refine Y_getI i_X10_longest_128 f_X10_65 rfl (zg0 _ _ _ _ _) ?_
          refine Y_if_ne i_X10_longest_131 (tgt := 139) rfl ⟨by omega, by omega⟩ (fun h131 => ?_) (fun h131 => ?_)
          · refine X_iconst i_X10_longest_139 ?_
            refine Y_istore_4 i_X10_longest_140 rfl rfl ?_
            refine X_iconst i_X10_longest_142 ?_
            refine Y_istore_5 i_X10_longest_143 rfl rfl ?_
            have loop3 : ∀ (n : Nat) (i : Nat) (W1 : zAft), i + 1 + n = sG (N 0) → (∀ u : Nat, u < sG (N 0) → W1 0 u = sMS (N 0) t u) → zX kX10_longest 4 145 [some (.ref 38), some (.int (zii (t : Nat))), some (.int (zii w)), some (.int (zii (sFa (t : Nat)))), some (.int (zii (sLw (sMS (N 0) t) (i + 1)))), some (.int (zii ((i : Int) + 1)))] [] (zs (zs (zs (zs M 17 W1) 14 (sRS (N 0) S t)) 13 K2) 3 (N 0)) (zAy (w_longest N (t : Nat) w) (.int (zii (w_longest N (t : Nat) w))) (.int (zii (a_longest N (t : Nat) w))) (zs (zs (zs (zs M 17 W) 14 S) 13 K) 3 (N 0)) (zs (zs (zs (zs M 17 W) 14 S) 13 K) 3 (N 0))) := by
              intro n
              induction n with
              | zero =>
                intro i W1 hg hw1
                have hGi : sG (N 0) = i + 1 := by omega
                obtain ⟨b, hb1, hb2, hb3⟩ := sLw_spec (sMS (N 0) t) (fun g => (sMS_in (N 0) g t).1) i
                have hwb := hw1 b (by omega)
                rw [hb2]
                refine Y_iload_5 i_X10_longest_145 ?_
                refine Y_aload_0 i_X10_longest_147 ?_
                refine Y_getI i_X10_longest_148 f_X10_65 rfl (zg0 _ _ _ _ _) ?_
                refine X_icmp_ge i_X10_longest_151 (tgt := 186) rfl ⟨by omega, by omega⟩ ⟨by omega, by omega⟩ (fun h151 => ?_) (fun h151 => by exfalso; omega)
                refine Y_iload_2 i_X10_longest_186 ?_
                refine X_if_eq i_X10_longest_187 (tgt := 195) rfl ⟨by omega, by omega⟩ (fun h187 => ?_) (fun h187 => ?_)
                · refine Y_iload_4 i_X10_longest_195 ?_
                  refine X_goto i_X10_longest_197 (tgt := 207) rfl ?_
                  
                  refine X_iret i_X10_longest_207 rfl ?_
                  exact zay0 (by unfold w_longest; (try rw [sFb2_e]); repeat (first | omega | split)) (zvi (by unfold a_longest; rw [Int.toNat_natCast]; rw [hGi, if_pos h187, hb2])) (zey_b (Or.inr (Or.inr rfl)) (sRS_in _ hS t) (hk1.2.tr hk2).mo)
                · refine Y_iload_4 i_X10_longest_190 ?_
                  refine X_if_ge i_X10_longest_192 (tgt := 200) rfl ⟨by omega, by omega⟩ (fun h192 => ?_) (fun h192 => by exfalso; omega)
                  refine Y_aload_0 i_X10_longest_200 ?_
                  refine X_getR i_X10_longest_201 f_X10_55 rfl ?_
                  refine Y_iload_4 i_X10_longest_204 ?_
                  refine Y_iald i_X10_longest_206 rfl ⟨by omega, by omega⟩ rfl (zg1 rfl (zg1 rfl (zg1 rfl (zg0 _ _ _ _ _)))) ?_
                  rw [hwb]
                  refine X_iret i_X10_longest_207 rfl ?_
                  exact zay0 (by unfold w_longest; (try rw [sFb2_e]); repeat (first | omega | split)) (zvi (by unfold a_longest; rw [Int.toNat_natCast]; rw [hGi, if_neg h187, hb3])) (zey_b (Or.inr (Or.inr rfl)) (sRS_in _ hS t) (hk1.2.tr hk2).mo)
              | succ n ih =>
                intro i W1 hg hw1
                obtain ⟨b, hb1, hb2, hb3⟩ := sLw_spec (sMS (N 0) t) (fun g => (sMS_in (N 0) g t).1) i
                have hwb := hw1 b (by omega)
                have hwi := hw1 (i + 1) (by omega)
                rw [Int.natCast_add] at hwi
                rw [hb2]
                have m1 := sMS_in (N 0) b t
                have m2 := sMS_in (N 0) (i + 1) t
                refine Y_iload_5 i_X10_longest_145 ?_
                refine Y_aload_0 i_X10_longest_147 ?_
                refine Y_getI i_X10_longest_148 f_X10_65 rfl (zg0 _ _ _ _ _) ?_
                refine X_icmp_ge i_X10_longest_151 (tgt := 186) rfl ⟨by omega, by omega⟩ ⟨by omega, by omega⟩ (fun h151 => by exfalso; omega) (fun h151 => ?_)
                refine Y_aload_0 i_X10_longest_154 ?_
                refine X_getR i_X10_longest_155 f_X10_55 rfl ?_
                refine Y_iload_5 i_X10_longest_158 ?_
                refine Y_iald i_X10_longest_160 rfl ⟨by omega, by omega⟩ rfl (zg1 rfl (zg1 rfl (zg1 rfl (zg0 _ _ _ _ _)))) ?_
                rw [show W1 0 ((i : Int) + 1) = sMS (N 0) t (i + 1) from hwi]
                refine Y_aload_0 i_X10_longest_161 ?_
                refine X_getR i_X10_longest_162 f_X10_55 rfl ?_
                refine Y_iload_4 i_X10_longest_165 ?_
                refine Y_iald i_X10_longest_167 rfl ⟨by omega, by omega⟩ rfl (zg1 rfl (zg1 rfl (zg1 rfl (zg0 _ _ _ _ _)))) ?_
                rw [hwb]
                refine X_icmp_le i_X10_longest_168 (tgt := 176) rfl ⟨by omega, by omega⟩ ⟨by omega, by omega⟩ (fun h168 => ?_) (fun h168 => ?_)
                · refine Y_iload_4 i_X10_longest_176 ?_
                  refine Y_istore_4 i_X10_longest_178 rfl rfl ?_
                  refine Y_iinc_5 i_X10_longest_180 rfl rfl ?_
                  refine X_goto i_X10_longest_183 (tgt := 145) rfl ?_
                  have hs9 : sLw (sMS (N 0) t) (i + 1 + 1) = (b : Int) := by
                    show (if sLm (sMS (N 0) t) (i + 1) < sMS (N 0) t (i + 1) then ((i + 1 : Nat) : Int) else sLw (sMS (N 0) t) (i + 1)) = _
                    rw [hb3, if_neg (by omega), hb2]
                  exact X_eq (ih (i + 1) W1 (by omega) hw1) (by rw [hs9]; simp) rfl rfl
                · refine Y_iload_5 i_X10_longest_171 ?_
                  refine X_goto i_X10_longest_173 (tgt := 178) rfl ?_
                  refine Y_istore_4 i_X10_longest_178 rfl rfl ?_
                  refine Y_iinc_5 i_X10_longest_180 rfl rfl ?_
                  refine X_goto i_X10_longest_183 (tgt := 145) rfl ?_
                  have hs9 : sLw (sMS (N 0) t) (i + 1 + 1) = ((i + 1 : Nat) : Int) := by
                    show (if sLm (sMS (N 0) t) (i + 1) < sMS (N 0) t (i + 1) then ((i + 1 : Nat) : Int) else sLw (sMS (N 0) t) (i + 1)) = _
                    rw [hb3, if_pos (by omega)]
                  exact X_eq (ih (i + 1) W1 (by omega) hw1) (by rw [hs9]; simp) rfl rfl
            obtain ⟨b0, hb0, hb1, _⟩ := sLw_spec (sMS (N 0) t) (fun g => (sMS_in (N 0) g t).1) 0
            obtain rfl : b0 = 0 := by omega
            exact X_eq (loop3 (sG (N 0) - 1) 0 W1 (by omega) hw1) (by rw [hb1]; rfl) rfl rfl
          · refine X_bipush i_X10_longest_134 (by decide +kernel) ?_
            refine X_goto i_X10_longest_136 (tgt := 140) rfl ?_
            refine Y_istore_4 i_X10_longest_140 rfl rfl ?_
            refine X_iconst i_X10_longest_142 ?_
            refine Y_istore_5 i_X10_longest_143 rfl rfl ?_
            have out0 : ∀ (W1 : zAft), sG (N 0) = 0 → zX kX10_longest 4 145 [some (.ref 38), some (.int (zii (t : Nat))), some (.int (zii w)), some (.int (zii (sFa (t : Nat)))), some (.int (zii (-9))), some (.int (zii 1))] [] (zs (zs (zs (zs M 17 W1) 14 (sRS (N 0) S t)) 13 K2) 3 (N 0)) (zAy (w_longest N (t : Nat) w) (.int (zii (w_longest N (t : Nat) w))) (.int (zii (a_longest N (t : Nat) w))) (zs (zs (zs (zs M 17 W) 14 S) 13 K) 3 (N 0)) (zs (zs (zs (zs M 17 W) 14 S) 13 K) 3 (N 0))) := by
              intro W1 hG0
              refine Y_iload_5 i_X10_longest_145 ?_
              refine Y_aload_0 i_X10_longest_147 ?_
              refine Y_getI i_X10_longest_148 f_X10_65 rfl (zg0 _ _ _ _ _) ?_
              refine X_icmp_ge i_X10_longest_151 (tgt := 186) rfl ⟨by omega, by omega⟩ ⟨by omega, by omega⟩ (fun h151 => ?_) (fun h151 => by exfalso; omega)
              refine Y_iload_2 i_X10_longest_186 ?_
              refine X_if_eq i_X10_longest_187 (tgt := 195) rfl ⟨by omega, by omega⟩ (fun h187 => ?_) (fun h187 => ?_)
              · refine Y_iload_4 i_X10_longest_195 ?_
                refine X_goto i_X10_longest_197 (tgt := 207) rfl ?_
                refine X_iret i_X10_longest_207 rfl ?_
                exact zay0 (by unfold w_longest; (try rw [sFb2_e]); repeat (first | omega | split)) (zvi (by unfold a_longest; rw [Int.toNat_natCast]; rw [hG0]; split <;> rfl)) (zey_b (Or.inr (Or.inr rfl)) (sRS_in _ hS t) (hk1.2.tr hk2).mo)
              · refine Y_iload_4 i_X10_longest_190 ?_
                refine X_if_ge i_X10_longest_192 (tgt := 200) rfl ⟨by omega, by omega⟩ (fun h192 => by exfalso; omega) (fun h192 => ?_)
                refine Y_iload_4 i_X10_longest_195 ?_
                refine X_goto i_X10_longest_197 (tgt := 207) rfl ?_
                refine X_iret i_X10_longest_207 rfl ?_
                exact zay0 (by unfold w_longest; (try rw [sFb2_e]); repeat (first | omega | split)) (zvi (by unfold a_longest; rw [Int.toNat_natCast]; rw [hG0]; split <;> rfl)) (zey_b (Or.inr (Or.inr rfl)) (sRS_in _ hS t) (hk1.2.tr hk2).mo)
            exact out0 W1 (by omega)
        | succ n ih =>
          intro k W1 L5 hg hw1
          refine Y_iload_4 i_X10_longest_62 ?_
          refine Y_iload_1 i_X10_longest_64 ?_
          refine X_icmp_ge i_X10_longest_65 (tgt := 123) rfl ⟨by omega, by omega⟩ ⟨by omega, by omega⟩ (fun h65 => by exfalso; omega) (fun h65 => ?_)
          refine Y_aload_0 i_X10_longest_68 ?_
          refine X_iconst i_X10_longest_69 ?_
          refine Y_callVv (k' := kX10_goesMinute) i_X10_longest_70 l_X10_197 m_X10_goesMinute (c_X10_goesMinute (sRun_ok hA k) (sRS_in _ hS k) (by omega)) rfl rfl rfl rfl rfl ?_
          refine X_iconst i_X10_longest_73 ?_
          refine Y_istore_5 i_X10_longest_74 rfl rfl ?_
          have inner : ∀ (d : Nat) (g : Nat) (W2 : zAft), g + d = sG (N 0) → (∀ u : Nat, u < g → W2 0 u = sMS (N 0) (k + 1) u) → (∀ u : Nat, g ≤ u → u < sG (N 0) → W2 0 u = sMS (N 0) k u) → zX kX10_longest 4 76 [some (.ref 38), some (.int (zii (t : Nat))), some (.int (zii w)), some (.int (zii (sFa (t : Nat)))), some (.int (zii k)), some (.int (zii g))] [] (zs (zs (zs (zs M 17 W2) 14 (sRS (N 0) S (k + 1))) 13 K1) 3 (sRun (N 0) (k + 1))) (zAy (w_longest N (t : Nat) w) (.int (zii (w_longest N (t : Nat) w))) (.int (zii (a_longest N (t : Nat) w))) (zs (zs (zs (zs M 17 W) 14 S) 13 K) 3 (N 0)) (zs (zs (zs (zs M 17 W) 14 S) 13 K) 3 (N 0))) := by
            intro d
            induction d with
            | zero =>
              intro g W2 hg hw2 hw3
              obtain rfl : g = sG (N 0) := by omega
              have h60 : sRun (N 0) (k + 1) 6 0 = N 0 6 0 := sRun_6 _ _ (by decide) (by decide) _
              refine Y_iload_5 i_X10_longest_76 ?_
              refine Y_aload_0 i_X10_longest_78 ?_
              refine Y_getI i_X10_longest_79 f_X10_65 rfl (zg0 _ _ _ _ _) ?_
              refine X_icmp_ge i_X10_longest_82 (tgt := 117) rfl ⟨by omega, by omega⟩ ⟨by omega, by omega⟩ (fun h82 => ?_) (fun h82 => by exfalso; omega)
              refine Y_iinc_4 i_X10_longest_117 rfl rfl ?_
              refine X_goto i_X10_longest_120 (tgt := 62) rfl ?_
              exact X_eq (ih (k + 1) W2 (some (.int (zii ((sG (N 0) : Nat) : Int)))) (by omega) (fun u hu => hw2 u hu)) (by simp) rfl rfl
            | succ d ih2 =>
              intro g W2 hg hw2 hw3
              have h60 : sRun (N 0) (k + 1) 6 0 = N 0 6 0 := sRun_6 _ _ (by decide) (by decide) _
              have hOj := sRun_ok hA (k + 1)
              have hgg := hOj.2 g (by omega) (by omega)
              unfold zG at hgg
              have hwg := hw3 g (Nat.le_refl g) (by omega)
              have m1 := sMS_in (N 0) g k
              refine Y_iload_5 i_X10_longest_76 ?_
              refine Y_aload_0 i_X10_longest_78 ?_
              refine Y_getI i_X10_longest_79 f_X10_65 rfl (zg0 _ _ _ _ _) ?_
              refine X_icmp_ge i_X10_longest_82 (tgt := 117) rfl ⟨by omega, by omega⟩ ⟨by omega, by omega⟩ (fun h82 => by exfalso; omega) (fun h82 => ?_)
              refine Y_aload_0 i_X10_longest_85 ?_
              refine X_getR i_X10_longest_86 f_X10_55 rfl ?_
              refine Y_iload_5 i_X10_longest_89 ?_
              refine X_dup2 i_X10_longest_91 rfl rfl ?_
              refine Y_iald i_X10_longest_92 rfl ⟨by omega, by omega⟩ rfl (zg1 rfl (zg1 rfl (zg1 rfl (zg0 _ _ _ _ _)))) ?_
              refine Y_aload_0 i_X10_longest_93 ?_
              refine X_getR i_X10_longest_94 f_X10_22 rfl ?_
              refine Y_iload_5 i_X10_longest_97 ?_
              refine Y_iald i_X10_longest_99 rfl ⟨by omega, by omega⟩ rfl (zg0 _ _ _ _ _) ?_
              refine X_iconst i_X10_longest_100 ?_
              refine Y_icmp_ne i_X10_longest_101 (tgt := 108) rfl ⟨by omega, by omega⟩ ⟨by omega, by omega⟩ (fun h101 => ?_) (fun h101 => ?_)
              · refine X_iconst i_X10_longest_108 ?_
                refine X_iadd i_X10_longest_109 ?_
                refine Y_iast i_X10_longest_110 rfl ⟨by omega, by omega⟩ rfl (zp1 rfl (zp1 rfl (zp1 rfl (zp0 _ _ _ _ _ _)))) ?_
                refine Y_iinc_5 i_X10_longest_111 rfl rfl ?_
                refine X_goto i_X10_longest_114 (tgt := 76) rfl ?_
                exact X_eq (ih2 (g + 1) _ (by omega) (fun u hu => by
                  by_cases e : u = g
                  · subst e
                    refine zr0.trans ?_
                    rw [hwg]
                    show _ = sMS (N 0) k u + (if sRun (N 0) (k + 1) 3 (u : Int) = 1 then 1 else 0)
                    rw [if_neg h101]
                  · exact zr2 (by omega) (hw2 u (by omega))) (fun u hu hu2 => zr2 (by omega) (hw3 u (by omega) hu2))) (by simp) rfl rfl
              · refine X_iconst i_X10_longest_104 ?_
                refine X_goto i_X10_longest_105 (tgt := 109) rfl ?_
                refine X_iadd i_X10_longest_109 ?_
                refine Y_iast i_X10_longest_110 rfl ⟨by omega, by omega⟩ rfl (zp1 rfl (zp1 rfl (zp1 rfl (zp0 _ _ _ _ _ _)))) ?_
                refine Y_iinc_5 i_X10_longest_111 rfl rfl ?_
                refine X_goto i_X10_longest_114 (tgt := 76) rfl ?_
                exact X_eq (ih2 (g + 1) _ (by omega) (fun u hu => by
                  by_cases e : u = g
                  · subst e
                    refine zr0.trans ?_
                    rw [hwg]
                    show _ = sMS (N 0) k u + (if sRun (N 0) (k + 1) 3 (u : Int) = 1 then 1 else 0)
                    rw [if_pos h101]
                  · exact zr2 (by omega) (hw2 u (by omega))) (fun u hu hu2 => zr2 (by omega) (hw3 u (by omega) hu2))) (by simp) rfl rfl
          exact inner (sG (N 0)) 0 W1 (by omega) (fun u hu => absurd hu (by omega)) (fun u _ hu => hw1 u hu)
      have loop1 : ∀ (n : Nat) (j : Nat) (W1 : zAft) (L5 : Option Value), j + n = 6 → (∀ u : Nat, u < j → W1 0 u = 0) → zX kX10_longest 4 38 [some (.ref 38), some (.int (zii (t : Nat))), some (.int (zii w)), some (.int (zii (sFa (t : Nat)))), some (.int (zii j)), L5] [] (zs (zs (zs (zs M 17 W1) 14 S) 13 K1) 3 (N 0)) (zAy (w_longest N (t : Nat) w) (.int (zii (w_longest N (t : Nat) w))) (.int (zii (a_longest N (t : Nat) w))) (zs (zs (zs (zs M 17 W) 14 S) 13 K) 3 (N 0)) (zs (zs (zs (zs M 17 W) 14 S) 13 K) 3 (N 0))) := by
        intro n
        induction n with
        | zero =>
          intro j W1 L5 hg hw1
          obtain rfl : j = 6 := by omega
          refine Y_iload_4 i_X10_longest_38 ?_
          refine X_bipush i_X10_longest_40 (by decide +kernel) ?_
          refine X_icmp_ge i_X10_longest_42 (tgt := 59) rfl ⟨by omega, by omega⟩ ⟨by omega, by omega⟩ (fun h42 => ?_) (fun h42 => by exfalso; omega)
          refine X_iconst i_X10_longest_59 ?_
          refine Y_istore_4 i_X10_longest_60 rfl rfl ?_
          exact X_eq (loop2 t 0 W1 _ (by omega) (fun u hu => hw1 u (by omega))) (by rfl) rfl rfl
        | succ n ih =>
          intro j W1 L5 hg hw1
          refine Y_iload_4 i_X10_longest_38 ?_
          refine X_bipush i_X10_longest_40 (by decide +kernel) ?_
          refine X_icmp_ge i_X10_longest_42 (tgt := 59) rfl ⟨by omega, by omega⟩ ⟨by omega, by omega⟩ (fun h42 => by exfalso; omega) (fun h42 => ?_)
          refine Y_aload_0 i_X10_longest_45 ?_
          refine X_getR i_X10_longest_46 f_X10_55 rfl ?_
          refine Y_iload_4 i_X10_longest_49 ?_
          refine X_iconst i_X10_longest_51 ?_
          refine Y_iast i_X10_longest_52 rfl ⟨by omega, by omega⟩ rfl (zp1 rfl (zp1 rfl (zp1 rfl (zp0 _ _ _ _ _ _)))) ?_
          refine Y_iinc_4 i_X10_longest_53 rfl rfl ?_
          refine X_goto i_X10_longest_56 (tgt := 38) rfl ?_
          exact X_eq (ih (j + 1) _ L5 (by omega) (fun u hu => by
            by_cases e : u = j
            · subst e; exact zr0
            · exact zr2 (by omega) (hw1 u (by omega)))) (by simp) rfl rfl
      exact loop1 6 0 W _ (by omega) (fun u hu => absurd hu (by omega))
    · refine Y_aload_0 i_X10_longest_25 ?_
      refine Y_iload_3 i_X10_longest_26 ?_
      refine Y_callV (k' := kX10_no) i_X10_longest_27 l_X10_75 m_X10_no (c_X10_no (by omega) (by omega)) rfl rfl rfl rfl rfl ?_
      refine X_iret i_X10_longest_30 rfl ?_
      exact zay1 (by unfold w_longest; (try rw [sFb2_e]); repeat (first | omega | split)) (by omega) hS
  · refine Y_iload_2 i_X10_longest_9 ?_
    refine X_iconst i_X10_longest_10 ?_
    refine X_iconst i_X10_longest_11 ?_
    refine Y_callS (k' := kX10_isIn) i_X10_longest_12 l_X10_86 m_X10_isIn (c_X10_isIn ⟨by omega, by omega⟩ (zR_lit rfl) (zR_lit rfl)) rfl rfl rfl rfl ?_
    refine Y_ifq_ne i_X10_longest_15 (tgt := 21) rfl  (fun h15 => ?_) (fun h15 => ?_)
    · refine Y_iload_3 i_X10_longest_21 ?_
      refine X_if_eq i_X10_longest_22 (tgt := 31) rfl ⟨by omega, by omega⟩ (fun h22 => ?_) (fun h22 => ?_)
      · refine Y_aload_0 i_X10_longest_31 ?_
        obtain ⟨t, rfl⟩ : ∃ t : Nat, n = t := ⟨n.toNat, by omega⟩
        refine Y_callVq (k' := kX10_thinks) i_X10_longest_32 l_X10_207 m_X10_thinks c_X10_thinks rfl rfl rfl rfl rfl ?_
        intro r9 M9 hr9
        obtain ⟨rfl, K1, hk1, rfl⟩ := hr9
        refine X_tl0 ?_
        refine X_iconst i_X10_longest_35 ?_
        refine Y_istore_4 i_X10_longest_36 rfl rfl ?_
        have loop2 : ∀ (n : Nat) (k : Nat) (W1 : zAft) (L5 : Option Value), k + n = t → (∀ u : Nat, u < sG (N 0) → W1 0 u = sMS (N 0) k u) → zX kX10_longest 4 62 [some (.ref 38), some (.int (zii (t : Nat))), some (.int (zii w)), some (.int (zii (sFa (t : Nat)))), some (.int (zii k)), L5] [] (zs (zs (zs (zs M 17 W1) 14 (sRS (N 0) S k)) 13 K1) 3 (sRun (N 0) k)) (zAy (w_longest N (t : Nat) w) (.int (zii (w_longest N (t : Nat) w))) (.int (zii (a_longest N (t : Nat) w))) (zs (zs (zs (zs M 17 W) 14 S) 13 K) 3 (N 0)) (zs (zs (zs (zs M 17 W) 14 S) 13 K) 3 (N 0))) := by
          intro n
          induction n with
          | zero =>
            intro k W1 L5 hg hw1
            obtain rfl : t = k := by omega
            refine Y_iload_4 i_X10_longest_62 ?_
            refine Y_iload_1 i_X10_longest_64 ?_
            refine X_icmp_ge i_X10_longest_65 (tgt := 123) rfl ⟨by omega, by omega⟩ ⟨by omega, by omega⟩ (fun h65 => ?_) (fun h65 => by exfalso; omega)
            refine Y_aload_0 i_X10_longest_123 ?_
            refine Y_callVq (k' := kX10_forgets) i_X10_longest_124 l_X10_210 m_X10_forgets (c_X10_forgets hk1.1) rfl rfl rfl rfl rfl ?_
            intro r9 M9 hr9
            obtain ⟨rfl, K2, hk2, rfl⟩ := hr9
            refine X_tl0 ?_
            refine Y_aload_0 i_X10_longest_127 ?_
            refine Y_getI i_X10_longest_128 f_X10_65 rfl (zg0 _ _ _ _ _) ?_
            refine Y_if_ne i_X10_longest_131 (tgt := 139) rfl ⟨by omega, by omega⟩ (fun h131 => ?_) (fun h131 => ?_)
            · refine X_iconst i_X10_longest_139 ?_
              refine Y_istore_4 i_X10_longest_140 rfl rfl ?_
              refine X_iconst i_X10_longest_142 ?_
              refine Y_istore_5 i_X10_longest_143 rfl rfl ?_
              have loop3 : ∀ (n : Nat) (i : Nat) (W1 : zAft), i + 1 + n = sG (N 0) → (∀ u : Nat, u < sG (N 0) → W1 0 u = sMS (N 0) t u) → zX kX10_longest 4 145 [some (.ref 38), some (.int (zii (t : Nat))), some (.int (zii w)), some (.int (zii (sFa (t : Nat)))), some (.int (zii (sLw (sMS (N 0) t) (i + 1)))), some (.int (zii ((i : Int) + 1)))] [] (zs (zs (zs (zs M 17 W1) 14 (sRS (N 0) S t)) 13 K2) 3 (N 0)) (zAy (w_longest N (t : Nat) w) (.int (zii (w_longest N (t : Nat) w))) (.int (zii (a_longest N (t : Nat) w))) (zs (zs (zs (zs M 17 W) 14 S) 13 K) 3 (N 0)) (zs (zs (zs (zs M 17 W) 14 S) 13 K) 3 (N 0))) := by
                intro n
                induction n with
                | zero =>
                  intro i W1 hg hw1
                  have hGi : sG (N 0) = i + 1 := by omega
                  obtain ⟨b, hb1, hb2, hb3⟩ := sLw_spec (sMS (N 0) t) (fun g => (sMS_in (N 0) g t).1) i
                  have hwb := hw1 b (by omega)
                  rw [hb2]
                  refine Y_iload_5 i_X10_longest_145 ?_
                  refine Y_aload_0 i_X10_longest_147 ?_
                  refine Y_getI i_X10_longest_148 f_X10_65 rfl (zg0 _ _ _ _ _) ?_
                  refine X_icmp_ge i_X10_longest_151 (tgt := 186) rfl ⟨by omega, by omega⟩ ⟨by omega, by omega⟩ (fun h151 => ?_) (fun h151 => by exfalso; omega)
                  refine Y_iload_2 i_X10_longest_186 ?_
                  refine X_if_eq i_X10_longest_187 (tgt := 195) rfl ⟨by omega, by omega⟩ (fun h187 => ?_) (fun h187 => ?_)
                  · refine Y_iload_4 i_X10_longest_195 ?_
                    refine X_goto i_X10_longest_197 (tgt := 207) rfl ?_
                    
                    refine X_iret i_X10_longest_207 rfl ?_
                    exact zay0 (by unfold w_longest; (try rw [sFb2_e]); repeat (first | omega | split)) (zvi (by unfold a_longest; rw [Int.toNat_natCast]; rw [hGi, if_pos h187, hb2])) (zey_b (Or.inr (Or.inr rfl)) (sRS_in _ hS t) (hk1.2.tr hk2).mo)
                  · refine Y_iload_4 i_X10_longest_190 ?_
                    refine X_if_ge i_X10_longest_192 (tgt := 200) rfl ⟨by omega, by omega⟩ (fun h192 => ?_) (fun h192 => by exfalso; omega)
                    refine Y_aload_0 i_X10_longest_200 ?_
                    refine X_getR i_X10_longest_201 f_X10_55 rfl ?_
                    refine Y_iload_4 i_X10_longest_204 ?_
                    refine Y_iald i_X10_longest_206 rfl ⟨by omega, by omega⟩ rfl (zg1 rfl (zg1 rfl (zg1 rfl (zg0 _ _ _ _ _)))) ?_
                    rw [hwb]
                    refine X_iret i_X10_longest_207 rfl ?_
                    exact zay0 (by unfold w_longest; (try rw [sFb2_e]); repeat (first | omega | split)) (zvi (by unfold a_longest; rw [Int.toNat_natCast]; rw [hGi, if_neg h187, hb3])) (zey_b (Or.inr (Or.inr rfl)) (sRS_in _ hS t) (hk1.2.tr hk2).mo)
                | succ n ih =>
                  intro i W1 hg hw1
                  obtain ⟨b, hb1, hb2, hb3⟩ := sLw_spec (sMS (N 0) t) (fun g => (sMS_in (N 0) g t).1) i
                  have hwb := hw1 b (by omega)
                  have hwi := hw1 (i + 1) (by omega)
                  rw [Int.natCast_add] at hwi
                  rw [hb2]
                  have m1 := sMS_in (N 0) b t
                  have m2 := sMS_in (N 0) (i + 1) t
                  refine Y_iload_5 i_X10_longest_145 ?_
                  refine Y_aload_0 i_X10_longest_147 ?_
                  refine Y_getI i_X10_longest_148 f_X10_65 rfl (zg0 _ _ _ _ _) ?_
                  refine X_icmp_ge i_X10_longest_151 (tgt := 186) rfl ⟨by omega, by omega⟩ ⟨by omega, by omega⟩ (fun h151 => by exfalso; omega) (fun h151 => ?_)
                  refine Y_aload_0 i_X10_longest_154 ?_
                  refine X_getR i_X10_longest_155 f_X10_55 rfl ?_
                  refine Y_iload_5 i_X10_longest_158 ?_
                  refine Y_iald i_X10_longest_160 rfl ⟨by omega, by omega⟩ rfl (zg1 rfl (zg1 rfl (zg1 rfl (zg0 _ _ _ _ _)))) ?_
                  rw [show W1 0 ((i : Int) + 1) = sMS (N 0) t (i + 1) from hwi]
                  refine Y_aload_0 i_X10_longest_161 ?_
                  refine X_getR i_X10_longest_162 f_X10_55 rfl ?_
                  refine Y_iload_4 i_X10_longest_165 ?_
                  refine Y_iald i_X10_longest_167 rfl ⟨by omega, by omega⟩ rfl (zg1 rfl (zg1 rfl (zg1 rfl (zg0 _ _ _ _ _)))) ?_
                  rw [hwb]
                  refine X_icmp_le i_X10_longest_168 (tgt := 176) rfl ⟨by omega, by omega⟩ ⟨by omega, by omega⟩ (fun h168 => ?_) (fun h168 => ?_)
                  · refine Y_iload_4 i_X10_longest_176 ?_
                    refine Y_istore_4 i_X10_longest_178 rfl rfl ?_
                    refine Y_iinc_5 i_X10_longest_180 rfl rfl ?_
                    refine X_goto i_X10_longest_183 (tgt := 145) rfl ?_
                    have hs9 : sLw (sMS (N 0) t) (i + 1 + 1) = (b : Int) := by
                      show (if sLm (sMS (N 0) t) (i + 1) < sMS (N 0) t (i + 1) then ((i + 1 : Nat) : Int) else sLw (sMS (N 0) t) (i + 1)) = _
                      rw [hb3, if_neg (by omega), hb2]
                    exact X_eq (ih (i + 1) W1 (by omega) hw1) (by rw [hs9]; simp) rfl rfl
                  · refine Y_iload_5 i_X10_longest_171 ?_
                    refine X_goto i_X10_longest_173 (tgt := 178) rfl ?_
                    refine Y_istore_4 i_X10_longest_178 rfl rfl ?_
                    refine Y_iinc_5 i_X10_longest_180 rfl rfl ?_
                    refine X_goto i_X10_longest_183 (tgt := 145) rfl ?_
                    have hs9 : sLw (sMS (N 0) t) (i + 1 + 1) = ((i + 1 : Nat) : Int) := by
                      show (if sLm (sMS (N 0) t) (i + 1) < sMS (N 0) t (i + 1) then ((i + 1 : Nat) : Int) else sLw (sMS (N 0) t) (i + 1)) = _
                      rw [hb3, if_pos (by omega)]
                    exact X_eq (ih (i + 1) W1 (by omega) hw1) (by rw [hs9]; simp) rfl rfl
              obtain ⟨b0, hb0, hb1, _⟩ := sLw_spec (sMS (N 0) t) (fun g => (sMS_in (N 0) g t).1) 0
              obtain rfl : b0 = 0 := by omega
              exact X_eq (loop3 (sG (N 0) - 1) 0 W1 (by omega) hw1) (by rw [hb1]; rfl) rfl rfl
            · refine X_bipush i_X10_longest_134 (by decide +kernel) ?_
              refine X_goto i_X10_longest_136 (tgt := 140) rfl ?_
              refine Y_istore_4 i_X10_longest_140 rfl rfl ?_
              refine X_iconst i_X10_longest_142 ?_
              refine Y_istore_5 i_X10_longest_143 rfl rfl ?_
              have out0 : ∀ (W1 : zAft), sG (N 0) = 0 → zX kX10_longest 4 145 [some (.ref 38), some (.int (zii (t : Nat))), some (.int (zii w)), some (.int (zii (sFa (t : Nat)))), some (.int (zii (-9))), some (.int (zii 1))] [] (zs (zs (zs (zs M 17 W1) 14 (sRS (N 0) S t)) 13 K2) 3 (N 0)) (zAy (w_longest N (t : Nat) w) (.int (zii (w_longest N (t : Nat) w))) (.int (zii (a_longest N (t : Nat) w))) (zs (zs (zs (zs M 17 W) 14 S) 13 K) 3 (N 0)) (zs (zs (zs (zs M 17 W) 14 S) 13 K) 3 (N 0))) := by
                intro W1 hG0
                refine Y_iload_5 i_X10_longest_145 ?_
                refine Y_aload_0 i_X10_longest_147 ?_
                refine Y_getI i_X10_longest_148 f_X10_65 rfl (zg0 _ _ _ _ _) ?_
                refine X_icmp_ge i_X10_longest_151 (tgt := 186) rfl ⟨by omega, by omega⟩ ⟨by omega, by omega⟩ (fun h151 => ?_) (fun h151 => by exfalso; omega)
                refine Y_iload_2 i_X10_longest_186 ?_
                refine X_if_eq i_X10_longest_187 (tgt := 195) rfl ⟨by omega, by omega⟩ (fun h187 => ?_) (fun h187 => ?_)
                · refine Y_iload_4 i_X10_longest_195 ?_
                  refine X_goto i_X10_longest_197 (tgt := 207) rfl ?_
                  refine X_iret i_X10_longest_207 rfl ?_
                  exact zay0 (by unfold w_longest; (try rw [sFb2_e]); repeat (first | omega | split)) (zvi (by unfold a_longest; rw [Int.toNat_natCast]; rw [hG0]; split <;> rfl)) (zey_b (Or.inr (Or.inr rfl)) (sRS_in _ hS t) (hk1.2.tr hk2).mo)
                · refine Y_iload_4 i_X10_longest_190 ?_
                  refine X_if_ge i_X10_longest_192 (tgt := 200) rfl ⟨by omega, by omega⟩ (fun h192 => by exfalso; omega) (fun h192 => ?_)
                  refine Y_iload_4 i_X10_longest_195 ?_
                  refine X_goto i_X10_longest_197 (tgt := 207) rfl ?_
                  refine X_iret i_X10_longest_207 rfl ?_
                  exact zay0 (by unfold w_longest; (try rw [sFb2_e]); repeat (first | omega | split)) (zvi (by unfold a_longest; rw [Int.toNat_natCast]; rw [hG0]; split <;> rfl)) (zey_b (Or.inr (Or.inr rfl)) (sRS_in _ hS t) (hk1.2.tr hk2).mo)
              exact out0 W1 (by omega)
          | succ n ih =>
            intro k W1 L5 hg hw1
            refine Y_iload_4 i_X10_longest_62 ?_
            refine Y_iload_1 i_X10_longest_64 ?_
            refine X_icmp_ge i_X10_longest_65 (tgt := 123) rfl ⟨by omega, by omega⟩ ⟨by omega, by omega⟩ (fun h65 => by exfalso; omega) (fun h65 => ?_)
            refine Y_aload_0 i_X10_longest_68 ?_
            refine X_iconst i_X10_longest_69 ?_
            refine Y_callVv (k' := kX10_goesMinute) i_X10_longest_70 l_X10_197 m_X10_goesMinute (c_X10_goesMinute (sRun_ok hA k) (sRS_in _ hS k) (by omega)) rfl rfl rfl rfl rfl ?_
            refine X_iconst i_X10_longest_73 ?_
            refine Y_istore_5 i_X10_longest_74 rfl rfl ?_
            have inner : ∀ (d : Nat) (g : Nat) (W2 : zAft), g + d = sG (N 0) → (∀ u : Nat, u < g → W2 0 u = sMS (N 0) (k + 1) u) → (∀ u : Nat, g ≤ u → u < sG (N 0) → W2 0 u = sMS (N 0) k u) → zX kX10_longest 4 76 [some (.ref 38), some (.int (zii (t : Nat))), some (.int (zii w)), some (.int (zii (sFa (t : Nat)))), some (.int (zii k)), some (.int (zii g))] [] (zs (zs (zs (zs M 17 W2) 14 (sRS (N 0) S (k + 1))) 13 K1) 3 (sRun (N 0) (k + 1))) (zAy (w_longest N (t : Nat) w) (.int (zii (w_longest N (t : Nat) w))) (.int (zii (a_longest N (t : Nat) w))) (zs (zs (zs (zs M 17 W) 14 S) 13 K) 3 (N 0)) (zs (zs (zs (zs M 17 W) 14 S) 13 K) 3 (N 0))) := by
              intro d
              induction d with
              | zero =>
                intro g W2 hg hw2 hw3
                obtain rfl : g = sG (N 0) := by omega
                have h60 : sRun (N 0) (k + 1) 6 0 = N 0 6 0 := sRun_6 _ _ (by decide) (by decide) _
                refine Y_iload_5 i_X10_longest_76 ?_
                refine Y_aload_0 i_X10_longest_78 ?_
                refine Y_getI i_X10_longest_79 f_X10_65 rfl (zg0 _ _ _ _ _) ?_
                refine X_icmp_ge i_X10_longest_82 (tgt := 117) rfl ⟨by omega, by omega⟩ ⟨by omega, by omega⟩ (fun h82 => ?_) (fun h82 => by exfalso; omega)
                refine Y_iinc_4 i_X10_longest_117 rfl rfl ?_
                refine X_goto i_X10_longest_120 (tgt := 62) rfl ?_
                exact X_eq (ih (k + 1) W2 (some (.int (zii ((sG (N 0) : Nat) : Int)))) (by omega) (fun u hu => hw2 u hu)) (by simp) rfl rfl
              | succ d ih2 =>
                intro g W2 hg hw2 hw3
                have h60 : sRun (N 0) (k + 1) 6 0 = N 0 6 0 := sRun_6 _ _ (by decide) (by decide) _
                have hOj := sRun_ok hA (k + 1)
                have hgg := hOj.2 g (by omega) (by omega)
                unfold zG at hgg
                have hwg := hw3 g (Nat.le_refl g) (by omega)
                have m1 := sMS_in (N 0) g k
                refine Y_iload_5 i_X10_longest_76 ?_
                refine Y_aload_0 i_X10_longest_78 ?_
                refine Y_getI i_X10_longest_79 f_X10_65 rfl (zg0 _ _ _ _ _) ?_
                refine X_icmp_ge i_X10_longest_82 (tgt := 117) rfl ⟨by omega, by omega⟩ ⟨by omega, by omega⟩ (fun h82 => by exfalso; omega) (fun h82 => ?_)
                refine Y_aload_0 i_X10_longest_85 ?_
                refine X_getR i_X10_longest_86 f_X10_55 rfl ?_
                refine Y_iload_5 i_X10_longest_89 ?_
                refine X_dup2 i_X10_longest_91 rfl rfl ?_
                refine Y_iald i_X10_longest_92 rfl ⟨by omega, by omega⟩ rfl (zg1 rfl (zg1 rfl (zg1 rfl (zg0 _ _ _ _ _)))) ?_
                refine Y_aload_0 i_X10_longest_93 ?_
                refine X_getR i_X10_longest_94 f_X10_22 rfl ?_
                refine Y_iload_5 i_X10_longest_97 ?_
                refine Y_iald i_X10_longest_99 rfl ⟨by omega, by omega⟩ rfl (zg0 _ _ _ _ _) ?_
                refine X_iconst i_X10_longest_100 ?_
                refine Y_icmp_ne i_X10_longest_101 (tgt := 108) rfl ⟨by omega, by omega⟩ ⟨by omega, by omega⟩ (fun h101 => ?_) (fun h101 => ?_)
                · refine X_iconst i_X10_longest_108 ?_
                  refine X_iadd i_X10_longest_109 ?_
                  refine Y_iast i_X10_longest_110 rfl ⟨by omega, by omega⟩ rfl (zp1 rfl (zp1 rfl (zp1 rfl (zp0 _ _ _ _ _ _)))) ?_
                  refine Y_iinc_5 i_X10_longest_111 rfl rfl ?_
                  refine X_goto i_X10_longest_114 (tgt := 76) rfl ?_
                  exact X_eq (ih2 (g + 1) _ (by omega) (fun u hu => by
                    by_cases e : u = g
                    · subst e
                      refine zr0.trans ?_
                      rw [hwg]
                      show _ = sMS (N 0) k u + (if sRun (N 0) (k + 1) 3 (u : Int) = 1 then 1 else 0)
                      rw [if_neg h101]
                    · exact zr2 (by omega) (hw2 u (by omega))) (fun u hu hu2 => zr2 (by omega) (hw3 u (by omega) hu2))) (by simp) rfl rfl
                · refine X_iconst i_X10_longest_104 ?_
                  refine X_goto i_X10_longest_105 (tgt := 109) rfl ?_
                  refine X_iadd i_X10_longest_109 ?_
                  refine Y_iast i_X10_longest_110 rfl ⟨by omega, by omega⟩ rfl (zp1 rfl (zp1 rfl (zp1 rfl (zp0 _ _ _ _ _ _)))) ?_
                  refine Y_iinc_5 i_X10_longest_111 rfl rfl ?_
                  refine X_goto i_X10_longest_114 (tgt := 76) rfl ?_
                  exact X_eq (ih2 (g + 1) _ (by omega) (fun u hu => by
                    by_cases e : u = g
                    · subst e
                      refine zr0.trans ?_
                      rw [hwg]
                      show _ = sMS (N 0) k u + (if sRun (N 0) (k + 1) 3 (u : Int) = 1 then 1 else 0)
                      rw [if_pos h101]
                    · exact zr2 (by omega) (hw2 u (by omega))) (fun u hu hu2 => zr2 (by omega) (hw3 u (by omega) hu2))) (by simp) rfl rfl
            exact inner (sG (N 0)) 0 W1 (by omega) (fun u hu => absurd hu (by omega)) (fun u _ hu => hw1 u hu)
        have loop1 : ∀ (n : Nat) (j : Nat) (W1 : zAft) (L5 : Option Value), j + n = 6 → (∀ u : Nat, u < j → W1 0 u = 0) → zX kX10_longest 4 38 [some (.ref 38), some (.int (zii (t : Nat))), some (.int (zii w)), some (.int (zii (sFa (t : Nat)))), some (.int (zii j)), L5] [] (zs (zs (zs (zs M 17 W1) 14 S) 13 K1) 3 (N 0)) (zAy (w_longest N (t : Nat) w) (.int (zii (w_longest N (t : Nat) w))) (.int (zii (a_longest N (t : Nat) w))) (zs (zs (zs (zs M 17 W) 14 S) 13 K) 3 (N 0)) (zs (zs (zs (zs M 17 W) 14 S) 13 K) 3 (N 0))) := by
          intro n
          induction n with
          | zero =>
            intro j W1 L5 hg hw1
            obtain rfl : j = 6 := by omega
            refine Y_iload_4 i_X10_longest_38 ?_
            refine X_bipush i_X10_longest_40 (by decide +kernel) ?_
            refine X_icmp_ge i_X10_longest_42 (tgt := 59) rfl ⟨by omega, by omega⟩ ⟨by omega, by omega⟩ (fun h42 => ?_) (fun h42 => by exfalso; omega)
            refine X_iconst i_X10_longest_59 ?_
            refine Y_istore_4 i_X10_longest_60 rfl rfl ?_
            exact X_eq (loop2 t 0 W1 _ (by omega) (fun u hu => hw1 u (by omega))) (by rfl) rfl rfl
          | succ n ih =>
            intro j W1 L5 hg hw1
            refine Y_iload_4 i_X10_longest_38 ?_
            refine X_bipush i_X10_longest_40 (by decide +kernel) ?_
            refine X_icmp_ge i_X10_longest_42 (tgt := 59) rfl ⟨by omega, by omega⟩ ⟨by omega, by omega⟩ (fun h42 => by exfalso; omega) (fun h42 => ?_)
            refine Y_aload_0 i_X10_longest_45 ?_
            refine X_getR i_X10_longest_46 f_X10_55 rfl ?_
            refine Y_iload_4 i_X10_longest_49 ?_
            refine X_iconst i_X10_longest_51 ?_
            refine Y_iast i_X10_longest_52 rfl ⟨by omega, by omega⟩ rfl (zp1 rfl (zp1 rfl (zp1 rfl (zp0 _ _ _ _ _ _)))) ?_
            refine Y_iinc_4 i_X10_longest_53 rfl rfl ?_
            refine X_goto i_X10_longest_56 (tgt := 38) rfl ?_
            exact X_eq (ih (j + 1) _ L5 (by omega) (fun u hu => by
              by_cases e : u = j
              · subst e; exact zr0
              · exact zr2 (by omega) (hw1 u (by omega)))) (by simp) rfl rfl
        exact loop1 6 0 W _ (by omega) (fun u hu => absurd hu (by omega))
      · refine Y_aload_0 i_X10_longest_25 ?_
        refine Y_iload_3 i_X10_longest_26 ?_
        refine Y_callV (k' := kX10_no) i_X10_longest_27 l_X10_75 m_X10_no (c_X10_no (by omega) (by omega)) rfl rfl rfl rfl rfl ?_
        refine X_iret i_X10_longest_30 rfl ?_
        exact zay1 (by unfold w_longest; (try rw [sFb2_e]); repeat (first | omega | split)) (by omega) hS
    · refine X_bipush i_X10_longest_18 (by decide +kernel) ?_
      refine Y_istore_3 i_X10_longest_20 rfl rfl ?_
      refine Y_iload_3 i_X10_longest_21 ?_
      refine X_if_eq i_X10_longest_22 (tgt := 31) rfl ⟨by omega, by omega⟩ (fun h22 => by exfalso; omega) (fun h22 => ?_)
      refine Y_aload_0 i_X10_longest_25 ?_
      refine Y_iload_3 i_X10_longest_26 ?_
      refine Y_callV (k' := kX10_no) i_X10_longest_27 l_X10_75 m_X10_no (c_X10_no (by omega) (by omega)) rfl rfl rfl rfl rfl ?_
      refine X_iret i_X10_longest_30 rfl ?_
      exact zay1 (by unfold w_longest; (try rw [sFb2_e]); repeat (first | omega | split)) (by omega) hS
set_option maxRecDepth 100000 in
theorem c_X10_away {M N : zMem} {S K : zAft} (hA : zOk 999 (N 0)) (hS : zSv S) {x : Int} (h_x : zR x) {n : Int} (h_n : zR n) {y : Int} (h_y : zR y) {w : Int} (h_w : zR w) : zCt kX10_away 4 [.ref 38, .int (zii x), .int (zii n), .int (zii y), .int (zii w)] ((zs (zs (zs M 14 S) 13 K) 3 (N 0))) (zAy (w_away N x n y w) (.long (zll (4000000000000000000 - (w_away N x n y w)))) (.long (zll (a_away N x n y w))) (zs (zs (zs M 14 S) 13 K) 3 (N 0)) (zs (zs (zs M 14 S) 13 K) 3 (N 0))) := by
  have h6 := hA.1
  unfold zH at h6
  have hG := sG_le hA.1
  have b_x := h_x.1
  have c_x := h_x.2
  have b_n := h_n.1
  have c_n := h_n.2
  have b_y := h_y.1
  have c_y := h_y.2
  have b_w := h_w.1
  have c_w := h_w.2
  have hfa := sFa_in n
  refine zMet (by decide) (Nat.le_of_ble_eq_true rfl) ?_
  show zX kX10_away 4 0 [some (.ref 38), some (.int (zii x)), some (.int (zii n)), some (.int (zii y)), some (.int (zii w)), none, none, none, none, none, none, none, none, none, none] [] _ _
  refine Y_aload_0 i_X10_away_0 ?_
  refine Y_iload_1 i_X10_away_1 ?_
  refine Y_callV (k' := kX10_isGuest) i_X10_away_2 l_X10_111 m_X10_isGuest (c_X10_isGuest (zs_self _ _ _) hA ⟨by omega, by omega⟩) rfl rfl rfl rfl rfl ?_
  refine Y_ifq_ne i_X10_away_5 (tgt := 12) rfl  (fun h5 => ?_) (fun h5 => ?_)
  · refine Y_iload_2 i_X10_away_12 ?_
    refine X_if_lt i_X10_away_13 (tgt := 21) rfl ⟨by omega, by omega⟩ (fun h13 => ?_) (fun h13 => ?_)
    · refine X_bipush i_X10_away_21 (by decide +kernel) ?_
      refine X_goto i_X10_away_23 (tgt := 59) rfl ?_
      refine Y_istore_5 i_X10_away_59 rfl rfl ?_
      refine Y_iload_5 i_X10_away_61 ?_
      refine X_if_eq i_X10_away_63 (tgt := 73) rfl ⟨by omega, by omega⟩ (fun h63 => by exfalso; omega) (fun h63 => ?_)
      refine Y_aload_0 i_X10_away_66 ?_
      refine Y_iload_5 i_X10_away_67 ?_
      refine Y_callV (k' := kX10_lowest) i_X10_away_69 l_X10_272 m_X10_lowest (c_X10_lowest (by omega) (by omega)) rfl rfl rfl rfl rfl ?_
      refine X_lret i_X10_away_72 rfl ?_
      exact zay3 (by unfold w_away; (try rw [sFb2_e]); repeat (first | omega | split)) (by omega) hS
    · refine Y_iload_3 i_X10_away_16 ?_
      refine X_iconst i_X10_away_17 ?_
      refine X_icmp_ge i_X10_away_18 (tgt := 26) rfl ⟨by omega, by omega⟩ ⟨by omega, by omega⟩ (fun h18 => ?_) (fun h18 => ?_)
      · refine Y_iload_2 i_X10_away_26 ?_
        refine X_bipush i_X10_away_27 (by decide +kernel) ?_
        refine X_icmp_gt i_X10_away_29 (tgt := 38) rfl ⟨by omega, by omega⟩ ⟨by omega, by omega⟩ (fun h29 => ?_) (fun h29 => ?_)
        · refine X_bipush i_X10_away_38 (by decide +kernel) ?_
          refine X_goto i_X10_away_40 (tgt := 59) rfl ?_
          refine Y_istore_5 i_X10_away_59 rfl rfl ?_
          refine Y_iload_5 i_X10_away_61 ?_
          refine X_if_eq i_X10_away_63 (tgt := 73) rfl ⟨by omega, by omega⟩ (fun h63 => by exfalso; omega) (fun h63 => ?_)
          refine Y_aload_0 i_X10_away_66 ?_
          refine Y_iload_5 i_X10_away_67 ?_
          refine Y_callV (k' := kX10_lowest) i_X10_away_69 l_X10_272 m_X10_lowest (c_X10_lowest (by omega) (by omega)) rfl rfl rfl rfl rfl ?_
          refine X_lret i_X10_away_72 rfl ?_
          exact zay3 (by unfold w_away; (try rw [sFb2_e]); repeat (first | omega | split)) (by omega) hS
        · refine Y_iload_3 i_X10_away_32 ?_
          refine X_bipush i_X10_away_33 (by decide +kernel) ?_
          refine X_icmp_le i_X10_away_35 (tgt := 43) rfl ⟨by omega, by omega⟩ ⟨by omega, by omega⟩ (fun h35 => ?_) (fun h35 => ?_)
          · refine Y_iload_4 i_X10_away_43 ?_
            refine X_iconst i_X10_away_45 ?_
            refine X_iconst i_X10_away_46 ?_
            refine Y_callS (k' := kX10_isIn) i_X10_away_47 l_X10_86 m_X10_isIn (c_X10_isIn ⟨by omega, by omega⟩ (zR_lit rfl) (zR_lit rfl)) rfl rfl rfl rfl ?_
            refine Y_ifq_ne i_X10_away_50 (tgt := 58) rfl  (fun h50 => ?_) (fun h50 => ?_)
            · refine X_iconst i_X10_away_58 ?_
              refine Y_istore_5 i_X10_away_59 rfl rfl ?_
              refine Y_iload_5 i_X10_away_61 ?_
              refine X_if_eq i_X10_away_63 (tgt := 73) rfl ⟨by omega, by omega⟩ (fun h63 => ?_) (fun h63 => by exfalso; omega)
              obtain ⟨n, rfl⟩ : ∃ t : Nat, n = t := ⟨n.toNat, by omega⟩
              obtain ⟨t, rfl⟩ : ∃ t : Nat, y = t := ⟨y.toNat, by omega⟩
              have hn8 : n ≤ 8 := by omega
              have ht20 : t ≤ 20 := by omega
              have h2n : (2 : Nat) ^ n ≤ 2 ^ 8 := Nat.pow_le_pow_right (by omega) hn8
              have htn : t ^ n ≤ 20 ^ 8 := Nat.le_trans (Nat.pow_le_pow_left ht20 n) (Nat.pow_le_pow_right (by omega) hn8)
              have htp : 0 < t ^ n := Nat.pow_pos (by omega)
              have e20 : (20 : Nat) ^ 8 = 25600000000 := by decide
              have e19 : (19 : Nat) ^ 8 = 16983563041 := by decide
              have hgx := hA.2 x (by omega) (by omega)
              unfold zG at hgx
              refine Y_aload_0 i_X10_away_73 ?_
              refine X_getR i_X10_away_74 f_X10_28 rfl ?_
              refine Y_iload_1 i_X10_away_77 ?_
              refine Y_iald i_X10_away_78 rfl ⟨by omega, by omega⟩ rfl (zg0 _ _ _ _ _) ?_
              refine Y_istore_6 i_X10_away_79 rfl rfl ?_
              refine X_lconst i_X10_away_81 (x := 0) rfl ?_
              refine Y_lstore_7 i_X10_away_82 rfl rfl ?_
              refine X_lconst i_X10_away_84 (x := 1) rfl ?_
              refine Y_lstore_9 i_X10_away_85 rfl rfl ?_
              refine X_iconst i_X10_away_87 ?_
              refine Y_istore_11 i_X10_away_88 rfl rfl ?_
              have loop2 : ∀ (m : Nat) (j : Nat) (T R : zAft) (lx ly : Option Value), j + m = 2 ^ n → zSv T → zKe 42 K R → zX kX10_away 4 112 [some (.ref 38), some (.int (zii x)), some (.int (zii (n : Nat))), some (.int (zii (t : Nat))), some (.int (zii w)), some (.int (zii 0)), some (.int (zii (N 0 5 x))), some (.long (zll (sAv (N 0) x n t j : Nat))), none, some (.long (zll (t ^ n : Nat))), none, some (.int (zii (j : Nat))), lx, none, ly] [] (zs (zs (zs M 14 T) 13 R) 3 (N 0)) (zAy (w_away N x (n : Nat) (t : Nat) w) (.long (zll (4000000000000000000 - (w_away N x (n : Nat) (t : Nat) w)))) (.long (zll (a_away N x (n : Nat) (t : Nat) w))) (zs (zs (zs M 14 S) 13 K) 3 (N 0)) (zs (zs (zs M 14 S) 13 K) 3 (N 0))) := by
                intro m
                induction m with
                | zero =>
                  intro j T R lx ly hg hT hR
                  have hj : j = 2 ^ n := by omega
                  have hav := sAv_le (A := N 0) (x := x) hn8 (by omega : 1 ≤ t) ht20 j
                  have hsh := zshl_n n (by omega)
                  have hg0 : 0 < Nat.gcd (sAv (N 0) x n t j) (t ^ n) := Nat.gcd_pos_of_pos_right _ htp
                  have hg1 : Nat.gcd (sAv (N 0) x n t j) (t ^ n) ≤ t ^ n := Nat.gcd_le_right _ htp
                  refine Y_iload_11 i_X10_away_112 ?_
                  refine X_iconst i_X10_away_114 ?_
                  refine Y_iload_2 i_X10_away_115 ?_
                  refine X_ishl i_X10_away_116 ?_
                  rw [hsh]
                  refine X_icmp_ge i_X10_away_117 (tgt := 218) rfl ⟨by omega, by omega⟩ ⟨by omega, by omega⟩ (fun h117 => ?_) (fun h117 => by exfalso; omega)
                  refine Y_iload_4 i_X10_away_218 ?_
                  refine Y_if_ne i_X10_away_220 (tgt := 228) rfl ⟨by omega, by omega⟩ (fun h220 => ?_) (fun h220 => ?_)
                  · refine Y_lload_9 i_X10_away_228 ?_
                    refine Y_lload_7 i_X10_away_230 ?_
                    refine Y_lload_9 i_X10_away_232 ?_
                    refine Y_callS (k' := kX10_divisor) i_X10_away_234 l_X10_276 m_X10_divisor (c_X10_divisor (by omega) (by omega)) rfl rfl rfl rfl ?_
                    refine X_ldiv i_X10_away_237 ⟨by omega, by omega⟩ (by omega) ?_
                    refine X_lret i_X10_away_238 rfl ?_
                    exact zay0 (by unfold w_away; (try rw [sFb2_e]); repeat (first | omega | split)) (zvl (by unfold a_away sPart; rw [Int.toNat_natCast, Int.toNat_natCast, ← hj, if_neg h220, zldiv_pos ⟨by omega, by omega⟩ (by omega) ⟨by omega, by omega⟩ (by omega)])) (zey_s hT hR)
                  · refine Y_lload_7 i_X10_away_223 ?_
                    refine X_goto i_X10_away_225 (tgt := 230) rfl ?_
                    refine Y_lload_7 i_X10_away_230 ?_
                    refine Y_lload_9 i_X10_away_232 ?_
                    refine Y_callS (k' := kX10_divisor) i_X10_away_234 l_X10_276 m_X10_divisor (c_X10_divisor (by omega) (by omega)) rfl rfl rfl rfl ?_
                    refine X_ldiv i_X10_away_237 ⟨by omega, by omega⟩ (by omega) ?_
                    refine X_lret i_X10_away_238 rfl ?_
                    exact zay0 (by unfold w_away; (try rw [sFb2_e]); repeat (first | omega | split)) (zvl (by unfold a_away sPart; rw [Int.toNat_natCast, Int.toNat_natCast, ← hj, if_pos h220, zldiv_pos ⟨by omega, by omega⟩ (by omega) ⟨by omega, by omega⟩ (by omega)])) (zey_s hT hR)
                | succ m ih =>
                  intro j T R lx ly hg hT hR
                  have hsh := zshl_n n (by omega)
                  have hav := sAv_le (A := N 0) (x := x) hn8 (by omega : 1 ≤ t) ht20 j
                  have hwy := sWy_le (j : Int) (by omega : 1 ≤ t) ht20 n
                  have h19 : (19 : Nat) ^ n ≤ 19 ^ 8 := Nat.pow_le_pow_right (by omega) hn8
                  have hg0 := hA.2 x (by omega) (by omega)
                  unfold zG at hg0
                  refine Y_iload_11 i_X10_away_112 ?_
                  refine X_iconst i_X10_away_114 ?_
                  refine Y_iload_2 i_X10_away_115 ?_
                  refine X_ishl i_X10_away_116 ?_
                  rw [hsh]
                  refine X_icmp_ge i_X10_away_117 (tgt := 218) rfl ⟨by omega, by omega⟩ ⟨by omega, by omega⟩ (fun h117 => by exfalso; omega) (fun h117 => ?_)
                  refine Y_aload_0 i_X10_away_120 ?_
                  refine Y_callVq (k' := kX10_thinks) i_X10_away_121 l_X10_207 m_X10_thinks c_X10_thinks rfl rfl rfl rfl rfl ?_
                  intro r9 M9 hr9
                  obtain ⟨rfl, K1, hk1, rfl⟩ := hr9
                  refine X_tl0 ?_
                  refine X_lconst i_X10_away_124 (x := 1) rfl ?_
                  refine Y_lstore_12 i_X10_away_125 rfl rfl ?_
                  refine X_iconst i_X10_away_127 ?_
                  refine Y_istore_14 i_X10_away_128 rfl rfl ?_
                  have inner : ∀ (d : Nat) (k : Nat) (U : zAft), k + d = n → zSv U → zX kX10_away 4 130 [some (.ref 38), some (.int (zii x)), some (.int (zii (n : Nat))), some (.int (zii (t : Nat))), some (.int (zii w)), some (.int (zii 0)), some (.int (zii (N 0 5 x))), some (.long (zll (sAv (N 0) x n t j : Nat))), none, some (.long (zll (t ^ n : Nat))), none, some (.int (zii (j : Nat))), some (.long (zll (sWy (j : Int) t k : Nat))), none, some (.int (zii (k : Nat)))] [] (zs (zs (zs M 14 U) 13 K1) 3 (sAy (N 0) (j : Int) k)) (zAy (w_away N x (n : Nat) (t : Nat) w) (.long (zll (4000000000000000000 - (w_away N x (n : Nat) (t : Nat) w)))) (.long (zll (a_away N x (n : Nat) (t : Nat) w))) (zs (zs (zs M 14 S) 13 K) 3 (N 0)) (zs (zs (zs M 14 S) 13 K) 3 (N 0))) := by
                    intro d
                    induction d with
                    | zero =>
                      intro k U hg hU
                      obtain rfl : n = k := by omega
                      have hO := sAy_ok hA (j : Int) n
                      have hgg := hO.2 x (by omega) (by omega)
                      unfold zG at hgg
                      refine Y_iload_14 i_X10_away_130 ?_
                      refine Y_iload_2 i_X10_away_132 ?_
                      refine X_icmp_ge i_X10_away_133 (tgt := 176) rfl ⟨by omega, by omega⟩ ⟨by omega, by omega⟩ (fun h133 => ?_) (fun h133 => by exfalso; omega)
                      refine Y_lload_7 i_X10_away_176 ?_
                      refine Y_aload_0 i_X10_away_178 ?_
                      refine X_getR i_X10_away_179 f_X10_28 rfl ?_
                      refine Y_iload_1 i_X10_away_182 ?_
                      refine Y_iald i_X10_away_183 rfl ⟨by omega, by omega⟩ rfl (zg0 _ _ _ _ _) ?_
                      refine Y_iload_6 i_X10_away_184 ?_
                      refine X_icmp_gt i_X10_away_186 (tgt := 199) rfl ⟨by omega, by omega⟩ ⟨by omega, by omega⟩ (fun h186 => ?_) (fun h186 => ?_)
                      · refine Y_lload_12 i_X10_away_199 ?_
                        refine X_goto i_X10_away_201 (tgt := 205) rfl ?_
                        refine X_ladd i_X10_away_205 ?_
                        refine Y_lstore_7 i_X10_away_206 rfl rfl ?_
                        refine Y_aload_0 i_X10_away_208 ?_
                        refine Y_callVq (k' := kX10_forgets) i_X10_away_209 l_X10_210 m_X10_forgets (c_X10_forgets hk1.1) rfl rfl rfl rfl rfl ?_
                        intro r9 M9 hr9
                        obtain ⟨rfl, K2, hk2, rfl⟩ := hr9
                        refine X_tl0 ?_
                        refine Y_iinc_11 i_X10_away_212 rfl rfl ?_
                        refine X_goto i_X10_away_215 (tgt := 112) rfl ?_
                        exact X_eq (ih (j + 1) U K2 (some (.long (zll (sWy (j : Int) t n : Nat)))) (some (.int (zii (n : Nat)))) (by omega) hU ((hR.tr hk1.2.mo).tr hk2.mo)) (by simp only [sAv]; rw [if_pos (by omega), Int.natCast_add]; rfl) rfl rfl
                      · refine Y_aload_0 i_X10_away_189 ?_
                        refine X_getR i_X10_away_190 f_X10_22 rfl ?_
                        refine Y_iload_1 i_X10_away_193 ?_
                        refine Y_iald i_X10_away_194 rfl ⟨by omega, by omega⟩ rfl (zg0 _ _ _ _ _) ?_
                        refine X_iconst i_X10_away_195 ?_
                        refine Y_icmp_ne i_X10_away_196 (tgt := 204) rfl ⟨by omega, by omega⟩ ⟨by omega, by omega⟩ (fun h196 => ?_) (fun h196 => ?_)
                        · refine X_lconst i_X10_away_204 (x := 0) rfl ?_
                          refine X_ladd i_X10_away_205 ?_
                          refine Y_lstore_7 i_X10_away_206 rfl rfl ?_
                          refine Y_aload_0 i_X10_away_208 ?_
                          refine Y_callVq (k' := kX10_forgets) i_X10_away_209 l_X10_210 m_X10_forgets (c_X10_forgets hk1.1) rfl rfl rfl rfl rfl ?_
                          intro r9 M9 hr9
                          obtain ⟨rfl, K2, hk2, rfl⟩ := hr9
                          refine X_tl0 ?_
                          refine Y_iinc_11 i_X10_away_212 rfl rfl ?_
                          refine X_goto i_X10_away_215 (tgt := 112) rfl ?_
                          exact X_eq (ih (j + 1) U K2 (some (.long (zll (sWy (j : Int) t n : Nat)))) (some (.int (zii (n : Nat)))) (by omega) hU ((hR.tr hk1.2.mo).tr hk2.mo)) (by simp only [sAv]; rw [if_neg (by omega)]; rfl) rfl rfl
                        · refine Y_lload_12 i_X10_away_199 ?_
                          refine X_goto i_X10_away_201 (tgt := 205) rfl ?_
                          refine X_ladd i_X10_away_205 ?_
                          refine Y_lstore_7 i_X10_away_206 rfl rfl ?_
                          refine Y_aload_0 i_X10_away_208 ?_
                          refine Y_callVq (k' := kX10_forgets) i_X10_away_209 l_X10_210 m_X10_forgets (c_X10_forgets hk1.1) rfl rfl rfl rfl rfl ?_
                          intro r9 M9 hr9
                          obtain ⟨rfl, K2, hk2, rfl⟩ := hr9
                          refine X_tl0 ?_
                          refine Y_iinc_11 i_X10_away_212 rfl rfl ?_
                          refine X_goto i_X10_away_215 (tgt := 112) rfl ?_
                          exact X_eq (ih (j + 1) U K2 (some (.long (zll (sWy (j : Int) t n : Nat)))) (some (.int (zii (n : Nat)))) (by omega) hU ((hR.tr hk1.2.mo).tr hk2.mo)) (by simp only [sAv]; rw [if_pos (by omega), Int.natCast_add]; rfl) rfl rfl
                    | succ d ih2 =>
                      intro k U hg hU
                      have hO := sAy_ok hA (j : Int) k
                      have hbr := sBit_in (j : Int) k
                      refine Y_iload_14 i_X10_away_130 ?_
                      refine Y_iload_2 i_X10_away_132 ?_
                      refine X_icmp_ge i_X10_away_133 (tgt := 176) rfl ⟨by omega, by omega⟩ ⟨by omega, by omega⟩ (fun h133 => by exfalso; omega) (fun h133 => ?_)
                      refine Y_lload_12 i_X10_away_136 ?_
                      refine Y_iload_11 i_X10_away_138 ?_
                      refine Y_iload_14 i_X10_away_140 ?_
                      refine Y_callS (k' := kX10_has) i_X10_away_142 l_X10_216 m_X10_has c_X10_has rfl rfl rfl rfl ?_
                      refine Y_ifq_eq i_X10_away_145 (tgt := 152) rfl  (fun h145 => ?_) (fun h145 => ?_)
                      · refine Y_iload_3 i_X10_away_152 ?_
                        refine X_iconst i_X10_away_153 ?_
                        refine X_isub i_X10_away_154 ?_
                        refine X_i2l i_X10_away_155 ⟨by omega, by omega⟩ ?_
                        refine X_lmul i_X10_away_156 ?_
                        refine Y_lstore_12 i_X10_away_157 rfl rfl ?_
                        refine Y_aload_0 i_X10_away_159 ?_
                        refine Y_iload_11 i_X10_away_160 ?_
                        refine Y_iload_14 i_X10_away_162 ?_
                        refine Y_callS (k' := kX10_has) i_X10_away_164 l_X10_216 m_X10_has c_X10_has rfl rfl rfl rfl ?_
                        rw [if_neg h145]
                        refine Y_callVv (k' := kX10_goesMinute) i_X10_away_167 l_X10_197 m_X10_goesMinute (c_X10_goesMinuteW hO hU (by omega) (zR_lit rfl)) rfl rfl rfl rfl rfl ?_
                        rw [if_pos rfl, if_pos rfl]
                        refine Y_iinc_14 i_X10_away_170 rfl rfl ?_
                        refine X_goto i_X10_away_173 (tgt := 130) rfl ?_
                        exact X_eq (ih2 (k + 1) _ (by omega) (sUn_in _ _ _ hU)) (by simp only [sWy]; rw [if_neg h145, Int.natCast_mul, Int.natCast_sub (by omega)]; rfl) rfl (by simp only [sAy]; rw [if_neg h145])
                      · refine X_lconst i_X10_away_148 (x := 1) rfl ?_
                        refine X_goto i_X10_away_149 (tgt := 156) rfl ?_
                        refine X_lmul i_X10_away_156 ?_
                        refine Y_lstore_12 i_X10_away_157 rfl rfl ?_
                        refine Y_aload_0 i_X10_away_159 ?_
                        refine Y_iload_11 i_X10_away_160 ?_
                        refine Y_iload_14 i_X10_away_162 ?_
                        refine Y_callS (k' := kX10_has) i_X10_away_164 l_X10_216 m_X10_has c_X10_has rfl rfl rfl rfl ?_
                        rw [if_pos h145]
                        refine Y_callVv (k' := kX10_goesMinute) i_X10_away_167 l_X10_197 m_X10_goesMinute (c_X10_goesMinuteW hO hU (by omega) (zR_lit rfl)) rfl rfl rfl rfl rfl ?_
                        rw [if_neg (by decide), if_neg (by decide)]
                        refine Y_iinc_14 i_X10_away_170 rfl rfl ?_
                        refine X_goto i_X10_away_173 (tgt := 130) rfl ?_
                        exact X_eq (ih2 (k + 1) _ (by omega) hU) (by simp only [sWy]; rw [if_pos h145, Int.mul_one]; rfl) rfl (by simp only [sAy]; rw [if_pos h145])
                  exact inner n 0 _ (by omega) hT
              have loop1 : ∀ (m : Nat) (j : Nat) (lx ly : Option Value), j + m = n → zX kX10_away 4 90 [some (.ref 38), some (.int (zii x)), some (.int (zii (n : Nat))), some (.int (zii (t : Nat))), some (.int (zii w)), some (.int (zii 0)), some (.int (zii (N 0 5 x))), some (.long (zll 0)), none, some (.long (zll (t ^ j : Nat))), none, some (.int (zii (j : Nat))), lx, none, ly] [] (zs (zs (zs M 14 S) 13 K) 3 (N 0)) (zAy (w_away N x (n : Nat) (t : Nat) w) (.long (zll (4000000000000000000 - (w_away N x (n : Nat) (t : Nat) w)))) (.long (zll (a_away N x (n : Nat) (t : Nat) w))) (zs (zs (zs M 14 S) 13 K) 3 (N 0)) (zs (zs (zs M 14 S) 13 K) 3 (N 0))) := by
                intro m
                induction m with
                | zero =>
                  intro j lx ly hg 
                  obtain rfl : n = j := by omega
                  refine Y_iload_11 i_X10_away_90 ?_
                  refine Y_iload_2 i_X10_away_92 ?_
                  refine X_icmp_ge i_X10_away_93 (tgt := 109) rfl ⟨by omega, by omega⟩ ⟨by omega, by omega⟩ (fun h93 => ?_) (fun h93 => by exfalso; omega)
                  refine X_iconst i_X10_away_109 ?_
                  refine Y_istore_11 i_X10_away_110 rfl rfl ?_
                  exact X_eq (loop2 (2 ^ n) 0 S K lx ly (by omega) hS zKe.rf) (by rfl) rfl rfl
                | succ m ih =>
                  intro j lx ly hg 
                  refine Y_iload_11 i_X10_away_90 ?_
                  refine Y_iload_2 i_X10_away_92 ?_
                  refine X_icmp_ge i_X10_away_93 (tgt := 109) rfl ⟨by omega, by omega⟩ ⟨by omega, by omega⟩ (fun h93 => by exfalso; omega) (fun h93 => ?_)
                  refine Y_lload_9 i_X10_away_96 ?_
                  refine Y_iload_3 i_X10_away_98 ?_
                  refine X_i2l i_X10_away_99 ⟨by omega, by omega⟩ ?_
                  refine X_lmul i_X10_away_100 ?_
                  refine Y_lstore_9 i_X10_away_101 rfl rfl ?_
                  refine Y_iinc_11 i_X10_away_103 rfl rfl ?_
                  refine X_goto i_X10_away_106 (tgt := 90) rfl ?_
                  exact X_eq (ih (j + 1) lx ly (by omega)) (by rw [Nat.pow_succ, Int.natCast_mul]; rfl) rfl rfl
              exact X_eq (loop1 n 0 _ _ (by omega)) (by rfl) rfl rfl
            · refine X_bipush i_X10_away_53 (by decide +kernel) ?_
              refine X_goto i_X10_away_55 (tgt := 59) rfl ?_
              refine Y_istore_5 i_X10_away_59 rfl rfl ?_
              refine Y_iload_5 i_X10_away_61 ?_
              refine X_if_eq i_X10_away_63 (tgt := 73) rfl ⟨by omega, by omega⟩ (fun h63 => by exfalso; omega) (fun h63 => ?_)
              refine Y_aload_0 i_X10_away_66 ?_
              refine Y_iload_5 i_X10_away_67 ?_
              refine Y_callV (k' := kX10_lowest) i_X10_away_69 l_X10_272 m_X10_lowest (c_X10_lowest (by omega) (by omega)) rfl rfl rfl rfl rfl ?_
              refine X_lret i_X10_away_72 rfl ?_
              exact zay3 (by unfold w_away; (try rw [sFb2_e]); repeat (first | omega | split)) (by omega) hS
          · refine X_bipush i_X10_away_38 (by decide +kernel) ?_
            refine X_goto i_X10_away_40 (tgt := 59) rfl ?_
            refine Y_istore_5 i_X10_away_59 rfl rfl ?_
            refine Y_iload_5 i_X10_away_61 ?_
            refine X_if_eq i_X10_away_63 (tgt := 73) rfl ⟨by omega, by omega⟩ (fun h63 => by exfalso; omega) (fun h63 => ?_)
            refine Y_aload_0 i_X10_away_66 ?_
            refine Y_iload_5 i_X10_away_67 ?_
            refine Y_callV (k' := kX10_lowest) i_X10_away_69 l_X10_272 m_X10_lowest (c_X10_lowest (by omega) (by omega)) rfl rfl rfl rfl rfl ?_
            refine X_lret i_X10_away_72 rfl ?_
            exact zay3 (by unfold w_away; (try rw [sFb2_e]); repeat (first | omega | split)) (by omega) hS
      · refine X_bipush i_X10_away_21 (by decide +kernel) ?_
        refine X_goto i_X10_away_23 (tgt := 59) rfl ?_
        refine Y_istore_5 i_X10_away_59 rfl rfl ?_
        refine Y_iload_5 i_X10_away_61 ?_
        refine X_if_eq i_X10_away_63 (tgt := 73) rfl ⟨by omega, by omega⟩ (fun h63 => by exfalso; omega) (fun h63 => ?_)
        refine Y_aload_0 i_X10_away_66 ?_
        refine Y_iload_5 i_X10_away_67 ?_
        refine Y_callV (k' := kX10_lowest) i_X10_away_69 l_X10_272 m_X10_lowest (c_X10_lowest (by omega) (by omega)) rfl rfl rfl rfl rfl ?_
        refine X_lret i_X10_away_72 rfl ?_
        exact zay3 (by unfold w_away; (try rw [sFb2_e]); repeat (first | omega | split)) (by omega) hS
  · refine X_iconst i_X10_away_8 ?_
    refine X_goto i_X10_away_9 (tgt := 59) rfl ?_
    refine Y_istore_5 i_X10_away_59 rfl rfl ?_
    refine Y_iload_5 i_X10_away_61 ?_
    refine X_if_eq i_X10_away_63 (tgt := 73) rfl ⟨by omega, by omega⟩ (fun h63 => by exfalso; omega) (fun h63 => ?_)
    refine Y_aload_0 i_X10_away_66 ?_
    refine Y_iload_5 i_X10_away_67 ?_
    refine Y_callV (k' := kX10_lowest) i_X10_away_69 l_X10_272 m_X10_lowest (c_X10_lowest (by omega) (by omega)) rfl rfl rfl rfl rfl ?_
    refine X_lret i_X10_away_72 rfl ?_
    exact zay3 (by unfold w_away; (try rw [sFb2_e]); repeat (first | omega | split)) (by omega) hS
set_option maxRecDepth 100000 in
theorem c_X10_lots {M N : zMem} {S K : zAft} (hA : zOk 999 (N 0)) (hS : zSv S) {n : Int} (h_n : zR n) {z : Int} (h_z : zR z) {w : Int} (h_w : zR w) : zCt kX10_lots 5 [.ref 38, .int (zii n), .int (zii z), .int (zii w)] ((zs (zs (zs M 14 S) 13 K) 3 (N 0))) (zAy (w_lots N n z w) (.int (zii (w_lots N n z w))) (.int (zii (a_lots N n z w))) (zs (zs (zs M 14 S) 13 K) 3 (N 0)) (zs (zs (zs M 14 S) 13 K) 3 (N 0))) := by
  have h6 := hA.1
  unfold zH at h6
  have hG := sG_le hA.1
  have b_n := h_n.1
  have c_n := h_n.2
  have b_z := h_z.1
  have c_z := h_z.2
  have b_w := h_w.1
  have c_w := h_w.2
  have hfa := sFa_in n
  refine zMet (by decide) (Nat.le_of_ble_eq_true rfl) ?_
  show zX kX10_lots 5 0 [some (.ref 38), some (.int (zii n)), some (.int (zii z)), some (.int (zii w)), none, none, none, none, none, none] [] _ _
  refine Y_iload_1 i_X10_lots_0 ?_
  refine X_iconst i_X10_lots_1 ?_
  refine X_bipush i_X10_lots_2 (by decide +kernel) ?_
  refine Y_callS (k' := kX10_bound) i_X10_lots_4 l_X10_68 m_X10_bound (c_X10_bound ⟨by omega, by omega⟩ (zR_lit rfl) (zR_lit rfl)) rfl rfl rfl rfl ?_
  refine Y_istore_4 i_X10_lots_7 rfl rfl ?_
  refine Y_iload_4 i_X10_lots_9 ?_
  refine Y_if_ne i_X10_lots_11 (tgt := 27) rfl ⟨by omega, by omega⟩ (fun h11 => ?_) (fun h11 => ?_)
  · refine Y_iload_4 i_X10_lots_27 ?_
    refine X_if_eq i_X10_lots_29 (tgt := 39) rfl ⟨by omega, by omega⟩ (fun h29 => ?_) (fun h29 => ?_)
    · obtain ⟨n, rfl⟩ : ∃ t : Nat, n = t := ⟨n.toNat, by omega⟩
      refine Y_iload_2 i_X10_lots_39 ?_
      refine Y_istore_5 i_X10_lots_40 rfl rfl ?_
      refine X_iconst i_X10_lots_42 ?_
      refine Y_istore_6 i_X10_lots_43 rfl rfl ?_
      refine X_iconst i_X10_lots_45 ?_
      refine Y_istore_7 i_X10_lots_46 rfl rfl ?_
      refine X_iconst i_X10_lots_48 ?_
      refine Y_istore_8 i_X10_lots_49 rfl rfl ?_
      exact absurd h29 h11
    · refine Y_aload_0 i_X10_lots_32 ?_
      refine Y_iload_4 i_X10_lots_33 ?_
      refine Y_callV (k' := kX10_no) i_X10_lots_35 l_X10_75 m_X10_no (c_X10_no (by omega) (by omega)) rfl rfl rfl rfl rfl ?_
      refine X_iret i_X10_lots_38 rfl ?_
      exact zay1 (by unfold w_lots; (try rw [sFb2_e]); repeat (first | omega | split)) (by omega) hS
  · refine Y_iload_3 i_X10_lots_14 ?_
    refine X_iconst i_X10_lots_15 ?_
    refine X_iconst i_X10_lots_16 ?_
    refine Y_callS (k' := kX10_isIn) i_X10_lots_17 l_X10_86 m_X10_isIn (c_X10_isIn ⟨by omega, by omega⟩ (zR_lit rfl) (zR_lit rfl)) rfl rfl rfl rfl ?_
    refine Y_ifq_ne i_X10_lots_20 (tgt := 27) rfl  (fun h20 => ?_) (fun h20 => ?_)
    · refine Y_iload_4 i_X10_lots_27 ?_
      refine X_if_eq i_X10_lots_29 (tgt := 39) rfl ⟨by omega, by omega⟩ (fun h29 => ?_) (fun h29 => ?_)
      · obtain ⟨n, rfl⟩ : ∃ t : Nat, n = t := ⟨n.toNat, by omega⟩
        refine Y_iload_2 i_X10_lots_39 ?_
        refine Y_istore_5 i_X10_lots_40 rfl rfl ?_
        refine X_iconst i_X10_lots_42 ?_
        refine Y_istore_6 i_X10_lots_43 rfl rfl ?_
        refine X_iconst i_X10_lots_45 ?_
        refine Y_istore_7 i_X10_lots_46 rfl rfl ?_
        refine X_iconst i_X10_lots_48 ?_
        refine Y_istore_8 i_X10_lots_49 rfl rfl ?_
        have main : ∀ (r : Nat) (i : Nat) (T R : zAft) (lx : Option Value), i + r = n → zSv T → zKe 42 K R → zX kX10_lots 5 51 [some (.ref 38), some (.int (zii (n : Nat))), some (.int (zii z)), some (.int (zii w)), some (.int (zii 0)), some (.int (zii (sSd z (i * sG (N 0))))), some (.int (zii (sSum (fun i => sMany (sDg (N 0) z i) 3) i))), some (.int (zii (sSum (fun i => sDg (N 0) z i 6 4 - N 0 6 4) i))), some (.int (zii i)), lx] [] (zs (zs (zs M 14 T) 13 R) 3 (N 0)) (zAy (w_lots N (n : Nat) z w) (.int (zii (w_lots N (n : Nat) z w))) (.int (zii (a_lots N (n : Nat) z w))) (zs (zs (zs M 14 S) 13 K) 3 (N 0)) (zs (zs (zs M 14 S) 13 K) 3 (N 0))) := by
          intro r
          induction r with
          | zero =>
            intro i T R lx hg hT hR
            obtain rfl : n = i := by omega
            refine Y_iload_8 i_X10_lots_51 ?_
            refine Y_iload_1 i_X10_lots_53 ?_
            refine X_icmp_ge i_X10_lots_54 (tgt := 155) rfl ⟨by omega, by omega⟩ ⟨by omega, by omega⟩ (fun h54 => ?_) (fun h54 => by exfalso; omega)
            refine Y_iload_3 i_X10_lots_155 ?_
            refine Y_if_ne i_X10_lots_156 (tgt := 164) rfl ⟨by omega, by omega⟩ (fun h156 => ?_) (fun h156 => ?_)
            · refine Y_iload_7 i_X10_lots_164 ?_
              refine X_iret i_X10_lots_166 rfl ?_
              exact zay0 (by unfold w_lots; (try rw [sFb2_e]); repeat (first | omega | split)) (zvi (by unfold a_lots; rw [Int.toNat_natCast, if_neg h156])) (zey_s hT hR)
            · refine Y_iload_6 i_X10_lots_159 ?_
              refine X_goto i_X10_lots_161 (tgt := 166) rfl ?_
              refine X_iret i_X10_lots_166 rfl ?_
              exact zay0 (by unfold w_lots; (try rw [sFb2_e]); repeat (first | omega | split)) (zvi (by unfold a_lots; rw [Int.toNat_natCast, if_pos h156])) (zey_s hT hR)
          | succ r ih =>
            intro i T R lx hg hT hR
            refine Y_iload_8 i_X10_lots_51 ?_
            refine Y_iload_1 i_X10_lots_53 ?_
            refine X_icmp_ge i_X10_lots_54 (tgt := 155) rfl ⟨by omega, by omega⟩ ⟨by omega, by omega⟩ (fun h54 => by exfalso; omega) (fun h54 => ?_)
            refine Y_aload_0 i_X10_lots_57 ?_
            refine Y_callVq (k' := kX10_thinks) i_X10_lots_58 l_X10_207 m_X10_thinks c_X10_thinks rfl rfl rfl rfl rfl ?_
            intro r9 M9 hr9
            obtain ⟨rfl, K1, hk1, rfl⟩ := hr9
            refine X_tl0 ?_
            refine Y_iload_7 i_X10_lots_61 ?_
            refine Y_aload_0 i_X10_lots_63 ?_
            refine Y_getI i_X10_lots_64 f_X10_161 rfl (zg0 _ _ _ _ _) ?_
            refine X_isub i_X10_lots_67 ?_
            refine Y_istore_7 i_X10_lots_68 rfl rfl ?_
            refine X_iconst i_X10_lots_70 ?_
            refine Y_istore_9 i_X10_lots_71 rfl rfl ?_
            have inner : ∀ (d : Nat) (g : Nat), g + d = sG (N 0) → zX kX10_lots 5 73 [some (.ref 38), some (.int (zii (n : Nat))), some (.int (zii z)), some (.int (zii w)), some (.int (zii 0)), some (.int (zii (sSd z (i * sG (N 0) + g)))), some (.int (zii (sSum (fun i => sMany (sDg (N 0) z i) 3) i))), some (.int (zii ((sSum (fun i => sDg (N 0) z i 6 4 - N 0 6 4) i) - N 0 6 4))), some (.int (zii i)), some (.int (zii g))] [] (zs (zs (zs M 14 T) 13 K1) 3 (sDw (N 0) z (i * sG (N 0)) g)) (zAy (w_lots N (n : Nat) z w) (.int (zii (w_lots N (n : Nat) z w))) (.int (zii (a_lots N (n : Nat) z w))) (zs (zs (zs M 14 S) 13 K) 3 (N 0)) (zs (zs (zs M 14 S) 13 K) 3 (N 0))) := by
              intro d
              induction d with
              | zero =>
                intro g  hg 
                obtain rfl : g = sG (N 0) := by omega
                have hD := sDw_ok hA z (i * sG (N 0)) (sG (N 0)) hG.1
                have hO := sRun_ok hD 60
                have h60 : (sDw (N 0) z (i * sG (N 0)) (sG (N 0))) 6 0 = N 0 6 0 := by rw [sDw_6]
                refine Y_iload_9 i_X10_lots_73 ?_
                refine Y_aload_0 i_X10_lots_75 ?_
                refine Y_getI i_X10_lots_76 f_X10_65 rfl (zg0 _ _ _ _ _) ?_
                refine X_icmp_ge i_X10_lots_79 (tgt := 120) rfl ⟨by omega, by omega⟩ ⟨by omega, by omega⟩ (fun h79 => ?_) (fun h79 => by exfalso; omega)
                refine Y_aload_0 i_X10_lots_120 ?_
                refine X_bipush i_X10_lots_121 (by decide +kernel) ?_
                refine Y_callVv (k' := kX10_goes) i_X10_lots_123 l_X10_107 m_X10_goes (c_X10_goes (t := 60) hD hT (by omega) (by omega)) rfl rfl rfl rfl rfl ?_
                refine Y_iload_7 i_X10_lots_126 ?_
                refine Y_aload_0 i_X10_lots_128 ?_
                refine Y_getI i_X10_lots_129 f_X10_161 rfl (zg0 _ _ _ _ _) ?_
                refine X_iadd i_X10_lots_132 ?_
                refine Y_istore_7 i_X10_lots_133 rfl rfl ?_
                refine Y_iload_6 i_X10_lots_135 ?_
                refine Y_aload_0 i_X10_lots_137 ?_
                refine X_iconst i_X10_lots_138 ?_
                refine Y_callV (k' := kX10_manyIn) i_X10_lots_139 l_X10_101 m_X10_manyIn (c_X10_manyIn (zs_self _ _ _) hO (zR_lit rfl)) rfl rfl rfl rfl rfl ?_
                refine X_iadd i_X10_lots_142 ?_
                refine Y_istore_6 i_X10_lots_143 rfl rfl ?_
                refine Y_aload_0 i_X10_lots_145 ?_
                refine Y_callVq (k' := kX10_forgets) i_X10_lots_146 l_X10_210 m_X10_forgets (c_X10_forgets hk1.1) rfl rfl rfl rfl rfl ?_
                intro r9 M9 hr9
                obtain ⟨rfl, K2, hk2, rfl⟩ := hr9
                refine X_tl0 ?_
                refine Y_iinc_8 i_X10_lots_149 rfl rfl ?_
                refine X_goto i_X10_lots_152 (tgt := 51) rfl ?_
                exact X_eq (ih (i + 1) _ K2 (some (.int (zii ((sG (N 0) : Nat) : Int)))) (by omega) (sRS_in _ hT 60) ((hR.tr hk1.2.mo).tr hk2.mo)) (by rw [Nat.succ_mul, show sSum (fun i => sDg (N 0) z i 6 4 - N 0 6 4) (i + 1) = (sSum (fun i => sDg (N 0) z i 6 4 - N 0 6 4) i) - N 0 6 4 + sRun (sDw (N 0) z (i * sG (N 0)) (sG (N 0))) 60 6 4 by simp only [sSum, sDg]; omega]; rfl) rfl rfl
              | succ d ih2 =>
                intro g  hg 
                have h60 : (sDw (N 0) z (i * sG (N 0)) g) 6 0 = N 0 6 0 := by rw [sDw_6]
                have h31 := zR_31 (sSd z (i * sG (N 0) + g) * 1103515245 + 12345)
                have hlt := sLt_in (sSd z (i * sG (N 0) + g) * 1103515245 + 12345)
                refine Y_iload_9 i_X10_lots_73 ?_
                refine Y_aload_0 i_X10_lots_75 ?_
                refine Y_getI i_X10_lots_76 f_X10_65 rfl (zg0 _ _ _ _ _) ?_
                refine X_icmp_ge i_X10_lots_79 (tgt := 120) rfl ⟨by omega, by omega⟩ ⟨by omega, by omega⟩ (fun h79 => by exfalso; omega) (fun h79 => ?_)
                refine Y_iload_5 i_X10_lots_82 ?_
                refine X_ldcw i_X10_lots_84 n_X10_292 (x := 1103515245) (by decide +kernel) ?_
                refine X_imul i_X10_lots_87 ?_
                refine X_sipush i_X10_lots_88 (by decide +kernel) ?_
                refine X_iadd i_X10_lots_91 ?_
                refine Y_istore_5 i_X10_lots_92 rfl rfl ?_
                refine Y_aload_0 i_X10_lots_94 ?_
                refine X_getR i_X10_lots_95 f_X10_19 rfl ?_
                refine Y_iload_9 i_X10_lots_98 ?_
                refine Y_iload_5 i_X10_lots_100 ?_
                refine X_ldcw i_X10_lots_102 n_X10_293 (x := 2147483647) (by decide +kernel) ?_
                refine X_iand i_X10_lots_105 ?_
                refine X_ldcw i_X10_lots_106 n_X10_294 (x := 65536) (by decide +kernel) ?_
                refine X_idiv i_X10_lots_109 ⟨by omega, by omega⟩ (by omega) ?_
                refine X_bipush i_X10_lots_110 (by decide +kernel) ?_
                refine X_irem i_X10_lots_112 ⟨by omega, by omega⟩ (by omega) ?_
                refine Y_iast i_X10_lots_113 rfl ⟨by omega, by omega⟩ rfl (zp0 _ _ _ _ _ _) ?_
                refine Y_iinc_9 i_X10_lots_114 rfl rfl ?_
                refine X_goto i_X10_lots_117 (tgt := 73) rfl ?_
                exact X_eq (ih2 (g + 1) (by omega)) rfl rfl rfl
            exact inner (sG (N 0)) 0 (by omega)
        exact X_eq (main n 0 S K _ (by omega) hS zKe.rf) (by rw [Nat.zero_mul, if_neg (by omega), if_neg (by omega)]; rfl) rfl rfl
      · refine Y_aload_0 i_X10_lots_32 ?_
        refine Y_iload_4 i_X10_lots_33 ?_
        refine Y_callV (k' := kX10_no) i_X10_lots_35 l_X10_75 m_X10_no (c_X10_no (by omega) (by omega)) rfl rfl rfl rfl rfl ?_
        refine X_iret i_X10_lots_38 rfl ?_
        exact zay1 (by unfold w_lots; (try rw [sFb2_e]); repeat (first | omega | split)) (by omega) hS
    · refine X_bipush i_X10_lots_23 (by decide +kernel) ?_
      refine Y_istore_4 i_X10_lots_25 rfl rfl ?_
      refine Y_iload_4 i_X10_lots_27 ?_
      refine X_if_eq i_X10_lots_29 (tgt := 39) rfl ⟨by omega, by omega⟩ (fun h29 => by exfalso; omega) (fun h29 => ?_)
      refine Y_aload_0 i_X10_lots_32 ?_
      refine Y_iload_4 i_X10_lots_33 ?_
      refine Y_callV (k' := kX10_no) i_X10_lots_35 l_X10_75 m_X10_no (c_X10_no (by omega) (by omega)) rfl rfl rfl rfl rfl ?_
      refine X_iret i_X10_lots_38 rfl ?_
      exact zay1 (by unfold w_lots; (try rw [sFb2_e]); repeat (first | omega | split)) (by omega) hS
