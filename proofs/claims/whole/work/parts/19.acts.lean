theorem zexs {M M' : zMem} {m : Nat} {A : zAft} (h : zEx M M') : zEx (zs M m A) (zs M' m A) := fun q h1 h7 h8 => by
  by_cases e : q = m
  · subst e; rw [zs_self, zs_self]
  · rw [zs_ne e, zs_ne e]; exact h q h1 h7 h8
theorem sHf_in (L : zAft) (hL : L 1 0 ≤ 96) : ∀ (n s k : Nat) (A : zAft), s ≤ 102 → -2102 ≤ (sHf L n s k A).1 ∧ (sHf L n s k A).1 ≤ k + n := by
  intro n
  induction n with
  | zero => intro s k A hs; simp only [sHf]; omega
  | succ n ih =>
    intro s k A hs
    have hl := sLn_in (sAt L s)
    simp only [sHf]
    split
    · split
      · have h := ih (s + sLn (sAt L s)) (k + 1) (sTd L s A) (by omega)
        omega
      · simp only []; omega
    · simp only []; omega
theorem sHa_in {L : zAft} (hL : zLt L) (A : zAft) : -2102 ≤ (sHa L A).1 ∧ (sHa L A).1 ≤ 96 := by
  have hw := sWp_in L hL.1.2 96 0
  have hw2 : -1 ≤ sWrl L ∧ sWrl L ≤ 102 := by unfold sWrl; split <;> omega
  have h2 := sHf_in L hL.1.2 96 0 0 A (by omega)
  unfold sHa
  split
  · simp only []; omega
  · omega
def w_guest (M : zMem) (x : Int) (y : Int) (z : Int) : Int := sY_come (M 0) x y z
def a_guest (M : zMem) (x : Int) (y : Int) (z : Int) : Int := M 0 6 0
def m_guest (M : zMem) (x : Int) (y : Int) (z : Int) : zMem := zs (zs M 6 (zwr (M 6) 5 1 0)) 0 (sCome (M 0) x y z)
set_option maxRecDepth 100000 in
theorem c_X9_guest {M : zMem} (hI : zIv M) {x : Int} (h_x : zR x) {y : Int} (h_y : zR y) {z : Int} (h_z : zR z) : zCt kX9_guest 2 [.ref 36, .int (zii x), .int (zii y), .int (zii z)] M (zAn (w_guest M x y z) (.int (zii (w_guest M x y z))) (.int (zii (a_guest M x y z))) (m_guest M x y z) M) := by
  obtain ⟨hA, hL, hT, hD, hPi, hR1, hR2⟩ := hI
  have h6 := hA.1
  unfold zH at h6
  have b_x := h_x.1
  have c_x := h_x.2
  have b_y := h_y.1
  have c_y := h_y.2
  have b_z := h_z.1
  have c_z := h_z.2
  have hy9 := sY_come_in (M 0) x y z
  refine zMet (by decide) (Nat.le_of_ble_eq_true rfl) ?_
  show zX kX9_guest 2 0 [some (.ref 36), some (.int (zii x)), some (.int (zii y)), some (.int (zii z)), none] [] _ _
  refine Y_aload_0 i_X9_guest_0 ?_
  refine X_getR i_X9_guest_1 f_X9_10 rfl ?_
  refine Y_iload_1 i_X9_guest_4 ?_
  refine Y_iload_2 i_X9_guest_5 ?_
  refine Y_iload_3 i_X9_guest_6 ?_
  refine Y_callV (k' := kX0_whyNotCome) i_X9_guest_7 l_X9_111 m_X0_whyNotCome (c_X0_whyNotCome (i := 0) (M := M) (A := M 0) (by omega) rfl hA.1 ⟨by omega, by omega⟩ ⟨by omega, by omega⟩ ⟨by omega, by omega⟩) rfl rfl rfl rfl rfl ?_
  change zX _ _ _ _ (.int (zii (sY_come (M 0) x y z)) :: _) _ _
  refine Y_istore_4 i_X9_guest_10 rfl rfl ?_
  refine Y_iload_4 i_X9_guest_12 ?_
  refine X_if_eq i_X9_guest_14 (tgt := 24) rfl ⟨by omega, by omega⟩ (fun h14 => ?_) (fun h14 => ?_)
  · have hr6 : M 0 6 0 < 6 := by
      have h9 := h14
      unfold sY_come at h9
      split at h9
      · omega
      · split at h9
        · omega
        · split at h9
          · omega
          · split at h9 <;> omega
    refine Y_aload_0 i_X9_guest_24 ?_
    refine X_getR i_X9_guest_25 f_X9_37 rfl ?_
    refine Y_callVv (k' := kX1_forget) i_X9_guest_28 l_X9_96 m_X1_forget (zctm 6 (c_X1_forget (M := M) (D := M 6))) rfl rfl rfl rfl rfl ?_
    refine Y_aload_0 i_X9_guest_31 ?_
    refine X_getR i_X9_guest_32 f_X9_10 rfl ?_
    refine Y_iload_1 i_X9_guest_35 ?_
    refine Y_iload_2 i_X9_guest_36 ?_
    refine Y_iload_3 i_X9_guest_37 ?_
    refine Y_callV (k' := kX0_come) i_X9_guest_38 l_X9_115 m_X0_come (zctm 0 (c_X0_come (i := 0) (M := (zs M 6 (zwr (M 6) 5 1 0))) (A := M 0) (by omega) hA.1 hr6)) rfl rfl rfl rfl rfl ?_
    refine X_iret i_X9_guest_41 rfl ?_
    exact zan0 (by unfold w_guest; exact h14) (rfl) (zex0 _)
  · refine Y_aload_0 i_X9_guest_17 ?_
    refine Y_iload_4 i_X9_guest_18 ?_
    refine Y_callV (k' := kX9_refuse) i_X9_guest_20 l_X9_72 m_X9_refuse (c_X9_refuse (by omega) (by omega)) rfl rfl rfl rfl rfl ?_
    refine X_iret i_X9_guest_23 rfl ?_
    exact zan1 (by unfold w_guest; rfl) (by omega)
def w_rises (M : zMem) (x : Int) : Int := sY_rise (M 0) x
def a_rises (M : zMem) (x : Int) : Int := sMany (sRise (M 0) x) 1
def m_rises (M : zMem) (x : Int) : zMem := zs (zs M 6 (sKp (M 6) (M 0) x)) 0 (sRise (M 0) x)
set_option maxRecDepth 100000 in
theorem c_X9_rises {M : zMem} (hI : zIv M) {x : Int} (h_x : zR x) : zCt kX9_rises 2 [.ref 36, .int (zii x)] M (zAn (w_rises M x) (.int (zii (w_rises M x))) (.int (zii (a_rises M x))) (m_rises M x) M) := by
  obtain ⟨hA, hL, hT, hD, hPi, hR1, hR2⟩ := hI
  have h6 := hA.1
  unfold zH at h6
  have b_x := h_x.1
  have c_x := h_x.2
  have hy9 := sY_rise_in (M 0) x
  refine zMet (by decide) (Nat.le_of_ble_eq_true rfl) ?_
  show zX kX9_rises 2 0 [some (.ref 36), some (.int (zii x)), none] [] _ _
  refine Y_aload_0 i_X9_rises_0 ?_
  refine X_getR i_X9_rises_1 f_X9_10 rfl ?_
  refine Y_iload_1 i_X9_rises_4 ?_
  refine Y_callV (k' := kX0_whyNotRise) i_X9_rises_5 l_X9_118 m_X0_whyNotRise (c_X0_whyNotRise (i := 0) (M := M) (A := M 0) (by omega) rfl hA ⟨by omega, by omega⟩) rfl rfl rfl rfl rfl ?_
  change zX _ _ _ _ (.int (zii (sY_rise (M 0) x)) :: _) _ _
  refine Y_istore_2 i_X9_rises_8 rfl rfl ?_
  refine Y_iload_2 i_X9_rises_9 ?_
  refine X_if_eq i_X9_rises_10 (tgt := 19) rfl ⟨by omega, by omega⟩ (fun h10 => ?_) (fun h10 => ?_)
  · have hgb : 0 ≤ x ∧ x < 6 := by
      have h9 := h10
      unfold sY_rise at h9
      split at h9 <;> omega
    refine Y_aload_0 i_X9_rises_19 ?_
    refine X_getR i_X9_rises_20 f_X9_37 rfl ?_
    refine Y_aload_0 i_X9_rises_23 ?_
    refine X_getR i_X9_rises_24 f_X9_10 rfl ?_
    refine Y_iload_1 i_X9_rises_27 ?_
    refine Y_callVv (k' := kX1_keep) i_X9_rises_28 l_X9_121 m_X1_keep (zctm 6 (c_X1_keep (M := M) (A := M 0) (D := M 6) (g := x) rfl hA hD (by omega) (by omega))) rfl rfl rfl rfl rfl ?_
    refine Y_aload_0 i_X9_rises_31 ?_
    refine X_getR i_X9_rises_32 f_X9_10 rfl ?_
    refine Y_iload_1 i_X9_rises_35 ?_
    refine Y_callVv (k' := kX0_rise) i_X9_rises_36 l_X9_125 m_X0_rise (zctm 0 (c_X0_rise (i := 0) (M := (zs M 6 (sKp (M 6) (M 0) x))) (A := M 0) (by omega) (by omega) (by omega))) rfl rfl rfl rfl rfl ?_
    refine Y_aload_0 i_X9_rises_39 ?_
    refine X_getR i_X9_rises_40 f_X9_10 rfl ?_
    refine X_iconst i_X9_rises_43 ?_
    refine Y_callV (k' := kX0_howMany) i_X9_rises_44 l_X9_128 m_X0_howMany (c_X0_howMany (i := 0) (by omega) (zs_self _ _ _) (sRise0_ok hA h10) (zR_lit rfl)) rfl rfl rfl rfl rfl ?_
    refine X_iret i_X9_rises_47 rfl ?_
    exact zan0 (by unfold w_rises; exact h10) (rfl) (zex0 _)
  · refine Y_aload_0 i_X9_rises_13 ?_
    refine Y_iload_2 i_X9_rises_14 ?_
    refine Y_callV (k' := kX9_refuse) i_X9_rises_15 l_X9_72 m_X9_refuse (c_X9_refuse (by omega) (by omega)) rfl rfl rfl rfl rfl ?_
    refine X_iret i_X9_rises_18 rfl ?_
    exact zan1 (by unfold w_rises; rfl) (by omega)
def w_slips (M : zMem) (x : Int) : Int := sY_slip (M 0) x
def a_slips (M : zMem) (x : Int) : Int := sMany (zwr (M 0) 3 x 3) 3
def m_slips (M : zMem) (x : Int) : zMem := zs (zs M 6 (sKp (M 6) (M 0) x)) 0 (zwr (M 0) 3 x 3)
set_option maxRecDepth 100000 in
theorem c_X9_slips {M : zMem} (hI : zIv M) {x : Int} (h_x : zR x) : zCt kX9_slips 2 [.ref 36, .int (zii x)] M (zAn (w_slips M x) (.int (zii (w_slips M x))) (.int (zii (a_slips M x))) (m_slips M x) M) := by
  obtain ⟨hA, hL, hT, hD, hPi, hR1, hR2⟩ := hI
  have h6 := hA.1
  unfold zH at h6
  have b_x := h_x.1
  have c_x := h_x.2
  have hy9 := sY_slip_in (M 0) x
  refine zMet (by decide) (Nat.le_of_ble_eq_true rfl) ?_
  show zX kX9_slips 2 0 [some (.ref 36), some (.int (zii x)), none] [] _ _
  refine Y_aload_0 i_X9_slips_0 ?_
  refine X_getR i_X9_slips_1 f_X9_10 rfl ?_
  refine Y_iload_1 i_X9_slips_4 ?_
  refine Y_callV (k' := kX0_whyNotSlip) i_X9_slips_5 l_X9_131 m_X0_whyNotSlip (c_X0_whyNotSlip (i := 0) (M := M) (A := M 0) (by omega) rfl hA ⟨by omega, by omega⟩) rfl rfl rfl rfl rfl ?_
  change zX _ _ _ _ (.int (zii (sY_slip (M 0) x)) :: _) _ _
  refine Y_istore_2 i_X9_slips_8 rfl rfl ?_
  refine Y_iload_2 i_X9_slips_9 ?_
  refine X_if_eq i_X9_slips_10 (tgt := 19) rfl ⟨by omega, by omega⟩ (fun h10 => ?_) (fun h10 => ?_)
  · have hgb : 0 ≤ x ∧ x < 6 := by
      have h9 := h10
      unfold sY_slip at h9
      split at h9 <;> omega
    refine Y_aload_0 i_X9_slips_19 ?_
    refine X_getR i_X9_slips_20 f_X9_37 rfl ?_
    refine Y_aload_0 i_X9_slips_23 ?_
    refine X_getR i_X9_slips_24 f_X9_10 rfl ?_
    refine Y_iload_1 i_X9_slips_27 ?_
    refine Y_callVv (k' := kX1_keep) i_X9_slips_28 l_X9_121 m_X1_keep (zctm 6 (c_X1_keep (M := M) (A := M 0) (D := M 6) (g := x) rfl hA hD (by omega) (by omega))) rfl rfl rfl rfl rfl ?_
    refine X_mm (zs_id _ 0) ?_
    refine Y_aload_0 i_X9_slips_31 ?_
    refine X_getR i_X9_slips_32 f_X9_10 rfl ?_
    refine X_getR i_X9_slips_35 f_X9_134 rfl ?_
    refine Y_iload_1 i_X9_slips_38 ?_
    refine X_iconst i_X9_slips_39 ?_
    refine Y_iast i_X9_slips_40 rfl ⟨by omega, by omega⟩ rfl (zp0 _ _ _ _ _ _) ?_
    refine Y_aload_0 i_X9_slips_41 ?_
    refine X_getR i_X9_slips_42 f_X9_10 rfl ?_
    refine X_iconst i_X9_slips_45 ?_
    refine Y_callV (k' := kX0_howMany) i_X9_slips_46 l_X9_128 m_X0_howMany (c_X0_howMany (i := 0) (A := zwr (M 0) 3 x 3) (by omega) (zs_self _ _ _) (sSlip_ok hA h10) (zR_lit rfl)) rfl rfl rfl rfl rfl ?_
    refine X_iret i_X9_slips_49 rfl ?_
    exact zan0 (by unfold w_slips; exact h10) (rfl) (zex0 _)
  · refine Y_aload_0 i_X9_slips_13 ?_
    refine Y_iload_2 i_X9_slips_14 ?_
    refine Y_callV (k' := kX9_refuse) i_X9_slips_15 l_X9_72 m_X9_refuse (c_X9_refuse (by omega) (by omega)) rfl rfl rfl rfl rfl ?_
    refine X_iret i_X9_slips_18 rfl ?_
    exact zan1 (by unfold w_slips; rfl) (by omega)
def w_cups (M : zMem) (v : Int) : Int := sY_cups (M 0) v
def a_cups (M : zMem) (v : Int) : Int := M 0 6 1
def m_cups (M : zMem) (v : Int) : zMem := zs (zs M 6 (sKp (M 6) (M 0) (-1))) 0 (zwr (M 0) 6 1 v)
set_option maxRecDepth 100000 in
theorem c_X9_cups {M : zMem} (hI : zIv M) {v : Int} (h_v : zR v) : zCt kX9_cups 2 [.ref 36, .int (zii v)] M (zAn (w_cups M v) (.int (zii (w_cups M v))) (.int (zii (a_cups M v))) (m_cups M v) M) := by
  obtain ⟨hA, hL, hT, hD, hPi, hR1, hR2⟩ := hI
  have h6 := hA.1
  unfold zH at h6
  have b_v := h_v.1
  have c_v := h_v.2
  have hy9 := sY_cups_in (M 0) v
  refine zMet (by decide) (Nat.le_of_ble_eq_true rfl) ?_
  show zX kX9_cups 2 0 [some (.ref 36), some (.int (zii v)), none, none] [] _ _
  refine Y_aload_0 i_X9_cups_0 ?_
  refine X_getR i_X9_cups_1 f_X9_10 rfl ?_
  refine Y_iload_1 i_X9_cups_4 ?_
  refine Y_callV (k' := kX0_whyNotCups) i_X9_cups_5 l_X9_137 m_X0_whyNotCups (c_X0_whyNotCups (i := 0) (M := M) (A := M 0) (by omega) rfl hA ⟨by omega, by omega⟩) rfl rfl rfl rfl rfl ?_
  change zX _ _ _ _ (.int (zii (sY_cups (M 0) v)) :: _) _ _
  refine Y_istore_2 i_X9_cups_8 rfl rfl ?_
  refine Y_iload_2 i_X9_cups_9 ?_
  refine X_if_eq i_X9_cups_10 (tgt := 19) rfl ⟨by omega, by omega⟩ (fun h10 => ?_) (fun h10 => ?_)
  · refine Y_aload_0 i_X9_cups_19 ?_
    refine X_getR i_X9_cups_20 f_X9_10 rfl ?_
    refine Y_getI i_X9_cups_23 f_X9_140 rfl rfl ?_
    refine Y_istore_3 i_X9_cups_26 rfl rfl ?_
    refine Y_aload_0 i_X9_cups_27 ?_
    refine X_getR i_X9_cups_28 f_X9_37 rfl ?_
    refine Y_aload_0 i_X9_cups_31 ?_
    refine X_getR i_X9_cups_32 f_X9_10 rfl ?_
    refine X_iconst i_X9_cups_35 ?_
    refine Y_callVv (k' := kX1_keep) i_X9_cups_36 l_X9_121 m_X1_keep (zctm 6 (c_X1_keep (M := M) (A := M 0) (D := M 6) (g := -1) rfl hA hD (by omega) (by omega))) rfl rfl rfl rfl rfl ?_
    refine X_mm (zs_id _ 0) ?_
    refine Y_aload_0 i_X9_cups_39 ?_
    refine X_getR i_X9_cups_40 f_X9_10 rfl ?_
    refine Y_iload_1 i_X9_cups_43 ?_
    refine Y_putI i_X9_cups_44 f_X9_140 rfl t_0_7 (zp0 _ _ _ _ _ _) ?_
    refine Y_iload_3 i_X9_cups_47 ?_
    refine X_iret i_X9_cups_48 rfl ?_
    exact zan0 (by unfold w_cups; exact h10) (rfl) (zex0 _)
  · refine Y_aload_0 i_X9_cups_13 ?_
    refine Y_iload_2 i_X9_cups_14 ?_
    refine Y_callV (k' := kX9_refuse) i_X9_cups_15 l_X9_72 m_X9_refuse (c_X9_refuse (by omega) (by omega)) rfl rfl rfl rfl rfl ?_
    refine X_iret i_X9_cups_18 rfl ?_
    exact zan1 (by unfold w_cups; rfl) (by omega)
def w_rule (M : zMem) (v : Int) : Int := if v < 0 ∨ 4 ≤ v then -2 else 0
def a_rule (M : zMem) (v : Int) : Int := M 0 6 2
def m_rule (M : zMem) (v : Int) : zMem := zs (zs M 6 (sKp (M 6) (M 0) (-1))) 0 (zwr (M 0) 6 2 v)
set_option maxRecDepth 100000 in
theorem c_X9_rule {M : zMem} (hI : zIv M) {v : Int} (h_v : zR v) : zCt kX9_rule 2 [.ref 36, .int (zii v)] M (zAn (w_rule M v) (.int (zii (w_rule M v))) (.int (zii (a_rule M v))) (m_rule M v) M) := by
  obtain ⟨hA, hL, hT, hD, hPi, hR1, hR2⟩ := hI
  have h6 := hA.1
  unfold zH at h6
  have b_v := h_v.1
  have c_v := h_v.2
  refine zMet (by decide) (Nat.le_of_ble_eq_true rfl) ?_
  show zX kX9_rule 2 0 [some (.ref 36), some (.int (zii v)), none] [] _ _
  refine Y_iload_1 i_X9_rule_0 ?_
  refine X_iconst i_X9_rule_1 ?_
  refine Y_callS (k' := kX9_isOther) i_X9_rule_2 l_X9_103 m_X9_isOther (c_X9_isOther ⟨by omega, by omega⟩ (zR_lit rfl)) rfl rfl rfl rfl ?_
  refine Y_ifq_eq i_X9_rule_5 (tgt := 15) rfl  (fun h5 => ?_) (fun h5 => ?_)
  · refine Y_aload_0 i_X9_rule_15 ?_
    refine X_getR i_X9_rule_16 f_X9_10 rfl ?_
    refine Y_getI i_X9_rule_19 f_X9_144 rfl rfl ?_
    refine Y_istore_2 i_X9_rule_22 rfl rfl ?_
    refine Y_aload_0 i_X9_rule_23 ?_
    refine X_getR i_X9_rule_24 f_X9_37 rfl ?_
    refine Y_aload_0 i_X9_rule_27 ?_
    refine X_getR i_X9_rule_28 f_X9_10 rfl ?_
    refine X_iconst i_X9_rule_31 ?_
    refine Y_callVv (k' := kX1_keep) i_X9_rule_32 l_X9_121 m_X1_keep (zctm 6 (c_X1_keep (M := M) (A := M 0) (D := M 6) (g := -1) rfl hA hD (by omega) (by omega))) rfl rfl rfl rfl rfl ?_
    refine X_mm (zs_id _ 0) ?_
    refine Y_aload_0 i_X9_rule_35 ?_
    refine X_getR i_X9_rule_36 f_X9_10 rfl ?_
    refine Y_iload_1 i_X9_rule_39 ?_
    refine Y_putI i_X9_rule_40 f_X9_144 rfl t_0_8 (zp0 _ _ _ _ _ _) ?_
    refine Y_iload_2 i_X9_rule_43 ?_
    refine X_iret i_X9_rule_44 rfl ?_
    exact zan0 (by unfold w_rule; rw [if_neg (by omega)]) (rfl) (zex0 _)
  · refine Y_aload_0 i_X9_rule_8 ?_
    refine X_bipush i_X9_rule_9 (by decide +kernel) ?_
    refine Y_callV (k' := kX9_refuse) i_X9_rule_11 l_X9_72 m_X9_refuse (c_X9_refuse (by omega) (by omega)) rfl rfl rfl rfl rfl ?_
    refine X_iret i_X9_rule_14 rfl ?_
    exact zan1 (by unfold w_rule; rw [if_pos (by omega)]) (by omega)
def w_minutes (M : zMem) (n : Int) : Int := sY_pass (M 0) n
def a_minutes (M : zMem) (n : Int) : Int := sMany (sRun (M 0) n.toNat) 3
def m_minutes (M : zMem) (n : Int) : zMem := zs (zs M 6 (zwr (M 6) 5 1 0)) 0 (sRun (M 0) n.toNat)
set_option maxRecDepth 100000 in
theorem c_X9_minutes {M : zMem} (hI : zIv M) {n : Int} (h_n : zR n) : zCt kX9_minutes 5 [.ref 36, .int (zii n)] M (zAn (w_minutes M n) (.int (zii (w_minutes M n))) (.int (zii (a_minutes M n))) (m_minutes M n) M) := by
  obtain ⟨hA, hL, hT, hD, hPi, hR1, hR2⟩ := hI
  have h6 := hA.1
  unfold zH at h6
  have b_n := h_n.1
  have c_n := h_n.2
  have hy9 := sY_pass_in (M 0) n
  refine zMet (by decide) (Nat.le_of_ble_eq_true rfl) ?_
  show zX kX9_minutes 5 0 [some (.ref 36), some (.int (zii n)), none] [] _ _
  refine Y_aload_0 i_X9_minutes_0 ?_
  refine X_getR i_X9_minutes_1 f_X9_10 rfl ?_
  refine Y_iload_1 i_X9_minutes_4 ?_
  refine Y_callV (k' := kX0_whyNotPass) i_X9_minutes_5 l_X9_147 m_X0_whyNotPass (c_X0_whyNotPass (i := 0) (M := M) (A := M 0) (by omega) rfl (by omega) hA ⟨by omega, by omega⟩) rfl rfl rfl rfl rfl ?_
  change zX _ _ _ _ (.int (zii (sY_pass (M 0) n)) :: _) _ _
  refine Y_istore_2 i_X9_minutes_8 rfl rfl ?_
  refine Y_iload_2 i_X9_minutes_9 ?_
  refine X_if_eq i_X9_minutes_10 (tgt := 19) rfl ⟨by omega, by omega⟩ (fun h10 => ?_) (fun h10 => ?_)
  · have hgb : 1 ≤ n ∧ n ≤ 60 := by
      have h9 := h10
      unfold sY_pass at h9
      split at h9
      · omega
      · split at h9 <;> omega
    obtain ⟨t, rfl⟩ : ∃ t : Nat, n = t := ⟨n.toNat, by omega⟩
    refine Y_aload_0 i_X9_minutes_19 ?_
    refine X_getR i_X9_minutes_20 f_X9_37 rfl ?_
    refine Y_callVv (k' := kX1_forget) i_X9_minutes_23 l_X9_96 m_X1_forget (zctm 6 (c_X1_forget (M := M) (D := M 6))) rfl rfl rfl rfl rfl ?_
    refine Y_aload_0 i_X9_minutes_26 ?_
    refine X_getR i_X9_minutes_27 f_X9_10 rfl ?_
    refine Y_iload_1 i_X9_minutes_30 ?_
    refine Y_callVv (k' := kX0_pass) i_X9_minutes_31 l_X9_150 m_X0_pass (zctm 0 (c_X0_pass (i := 0) (M := (zs M 6 (zwr (M 6) 5 1 0))) (A := M 0) (t := t) (by omega) hA (by omega) (by omega))) rfl rfl rfl rfl rfl ?_
    refine Y_aload_0 i_X9_minutes_34 ?_
    refine X_getR i_X9_minutes_35 f_X9_10 rfl ?_
    refine X_iconst i_X9_minutes_38 ?_
    refine Y_callV (k' := kX0_howMany) i_X9_minutes_39 l_X9_128 m_X0_howMany (c_X0_howMany (i := 0) (A := sRun (M 0) t) (by omega) (zs_self _ _ _) (sPass_ok hA h10) (zR_lit rfl)) rfl rfl rfl rfl rfl ?_
    refine X_iret i_X9_minutes_42 rfl ?_
    exact zan0 (by unfold w_minutes; exact h10) (rfl) (zex0 _)
  · refine Y_aload_0 i_X9_minutes_13 ?_
    refine Y_iload_2 i_X9_minutes_14 ?_
    refine Y_callV (k' := kX9_refuse) i_X9_minutes_15 l_X9_72 m_X9_refuse (c_X9_refuse (by omega) (by omega)) rfl rfl rfl rfl rfl ?_
    refine X_iret i_X9_minutes_18 rfl ?_
    exact zan1 (by unfold w_minutes; rfl) (by omega)
def w_back (M : zMem) : Int := if M 6 5 1 = 0 then -3 else 0
def a_back (M : zMem) : Int := M 6 5 1 - 1
def m_back (M : zMem) : zMem := zs (zs M 6 (sBD (M 6))) 0 (sBA (M 6) (M 0))
set_option maxRecDepth 100000 in
theorem c_X9_back {M : zMem} (hI : zIv M) : zCt kX9_back 2 [.ref 36] M (zAn (w_back M) (.int (zii (w_back M))) (.int (zii (a_back M))) (m_back M) M) := by
  obtain ⟨hA, hL, hT, hD, hPi, hR1, hR2⟩ := hI
  have h6 := hA.1
  unfold zH at h6
  have hD1 := hD.1
  have hD2 := hD.2.1
  refine zMet (by decide) (Nat.le_of_ble_eq_true rfl) ?_
  show zX kX9_back 2 0 [some (.ref 36)] [] _ _
  refine Y_aload_0 i_X9_back_0 ?_
  refine X_getR i_X9_back_1 f_X9_37 rfl ?_
  refine Y_getI i_X9_back_4 f_X9_153 rfl rfl ?_
  refine Y_if_ne i_X9_back_7 (tgt := 17) rfl ⟨by omega, by omega⟩ (fun h7 => ?_) (fun h7 => ?_)
  · refine Y_aload_0 i_X9_back_17 ?_
    refine X_getR i_X9_back_18 f_X9_37 rfl ?_
    refine Y_aload_0 i_X9_back_21 ?_
    refine X_getR i_X9_back_22 f_X9_10 rfl ?_
    refine Y_callV (k' := kX1_takeBack) i_X9_back_25 l_X9_156 m_X1_takeBack (zctm2 6 0 (c_X1_takeBack (M := M) (A := M 0) (D := M 6) hA hD)) rfl rfl rfl rfl rfl ?_
    refine X_iret i_X9_back_28 rfl ?_
    exact zan0 (by unfold w_back; rw [if_neg (by omega)]) (rfl) (zex0 _)
  · refine Y_aload_0 i_X9_back_10 ?_
    refine X_bipush i_X9_back_11 (by decide +kernel) ?_
    refine Y_callV (k' := kX9_refuse) i_X9_back_13 l_X9_72 m_X9_refuse (c_X9_refuse (by omega) (by omega)) rfl rfl rfl rfl rfl ?_
    refine X_iret i_X9_back_16 rfl ?_
    exact zan1 (by unfold w_back; rw [if_pos (by omega)]) (by omega)
def w_judge (M : zMem) (x : Int) : Int := if ¬ (0 ≤ x ∧ x < M 0 6 0) then -1 else 0
def a_judge (M : zMem) (x : Int) : Int := sWt (M 0) (M 5) x
def m_judge (M : zMem) (x : Int) : zMem := zs M 5 (zwr (M 5) 1 0 0)
set_option maxRecDepth 100000 in
theorem c_X9_judge {M : zMem} (hI : zIv M) {x : Int} (h_x : zR x) : zCt kX9_judge 5 [.ref 36, .int (zii x)] M (zAn (w_judge M x) (.int (zii (w_judge M x))) (.int (zii (a_judge M x))) (m_judge M x) M) := by
  obtain ⟨hA, hL, hT, hD, hPi, hR1, hR2⟩ := hI
  have h6 := hA.1
  unfold zH at h6
  have b_x := h_x.1
  have c_x := h_x.2
  refine zMet (by decide) (Nat.le_of_ble_eq_true rfl) ?_
  show zX kX9_judge 5 0 [some (.ref 36), some (.int (zii x)), none] [] _ _
  refine Y_aload_0 i_X9_judge_0 ?_
  refine X_getR i_X9_judge_1 f_X9_10 rfl ?_
  refine Y_iload_1 i_X9_judge_4 ?_
  refine Y_callV (k' := kX0_has) i_X9_judge_5 l_X9_99 m_X0_has (c_X0_has (i := 0) (M := M) (A := M 0) (by omega) rfl hA.1 ⟨by omega, by omega⟩) rfl rfl rfl rfl rfl ?_
  refine Y_ifq_ne i_X9_judge_8 (tgt := 17) rfl  (fun h8 => ?_) (fun h8 => ?_)
  · refine Y_aload_0 i_X9_judge_17 ?_
    refine X_getR i_X9_judge_18 f_X9_60 rfl ?_
    refine Y_iload_1 i_X9_judge_21 ?_
    refine Y_aload_0 i_X9_judge_22 ?_
    refine X_getR i_X9_judge_23 f_X9_31 rfl ?_
    refine Y_callVe (k' := kX4_firstWrongThirst) i_X9_judge_26 l_X9_288 m_X4_firstWrongThirst (zctm 1 (c_X4_firstWrongThirst (M := M) (A := M 0) (B := M 1) (x := x) rfl hA hT (by omega) (by omega))) rfl rfl rfl rfl rfl ?_
    intro C9
    refine Y_istore_2 i_X9_judge_29 rfl rfl ?_
    refine Y_aload_0 i_X9_judge_30 ?_
    refine X_getR i_X9_judge_31 f_X9_31 rfl ?_
    refine Y_callVv (k' := kX6_empty) i_X9_judge_34 l_X9_89 m_X6_empty (zctm 5 (c_X6_empty_5 (M := zs M 1 C9) (L := M 5))) rfl rfl rfl rfl rfl ?_
    refine Y_iload_2 i_X9_judge_37 ?_
    refine X_iret i_X9_judge_38 rfl ?_
    exact zan0 (by unfold w_judge; rw [if_neg (by omega)]) (rfl) (zexs zex1)
  · refine Y_aload_0 i_X9_judge_11 ?_
    refine X_iconst i_X9_judge_12 ?_
    refine Y_callV (k' := kX9_refuse) i_X9_judge_13 l_X9_72 m_X9_refuse (c_X9_refuse (by omega) (by omega)) rfl rfl rfl rfl rfl ?_
    refine X_iret i_X9_judge_16 rfl ?_
    exact zan1 (by unfold w_judge; rw [if_pos (by omega)]) (by omega)
def w_row (M : zMem) (v : Int) : Int := if v < 0 then -4 else if 99 < v ∨ 12 ≤ M 5 1 0 then -6 else 0
def a_row (M : zMem) (v : Int) : Int := M 5 1 0 + 1
def m_row (M : zMem) (v : Int) : zMem := zs M 5 (zwr (zwr (M 5) 0 (M 5 1 0) v) 1 0 (M 5 1 0 + 1))
set_option maxRecDepth 100000 in
theorem c_X9_row {M : zMem} (hI : zIv M) {v : Int} (h_v : zR v) : zCt kX9_row 2 [.ref 36, .int (zii v)] M (zAn (w_row M v) (.int (zii (w_row M v))) (.int (zii (a_row M v))) (m_row M v) M) := by
  obtain ⟨hA, hL, hT, hD, hPi, hR1, hR2⟩ := hI
  have h6 := hA.1
  unfold zH at h6
  have b_v := h_v.1
  have c_v := h_v.2
  have hT1 := hT.1
  refine zMet (by decide) (Nat.le_of_ble_eq_true rfl) ?_
  show zX kX9_row 2 0 [some (.ref 36), some (.int (zii v))] [] _ _
  refine Y_iload_1 i_X9_row_0 ?_
  refine X_if_ge i_X9_row_1 (tgt := 11) rfl ⟨by omega, by omega⟩ (fun h1 => ?_) (fun h1 => ?_)
  · refine Y_iload_1 i_X9_row_11 ?_
    refine X_bipush i_X9_row_12 (by decide +kernel) ?_
    refine X_icmp_gt i_X9_row_14 (tgt := 27) rfl ⟨by omega, by omega⟩ ⟨by omega, by omega⟩ (fun h14 => ?_) (fun h14 => ?_)
    · refine Y_aload_0 i_X9_row_27 ?_
      refine X_bipush i_X9_row_28 (by decide +kernel) ?_
      refine Y_callV (k' := kX9_refuse) i_X9_row_30 l_X9_72 m_X9_refuse (c_X9_refuse (by omega) (by omega)) rfl rfl rfl rfl rfl ?_
      refine X_iret i_X9_row_33 rfl ?_
      exact zan1 (by unfold w_row; rw [if_neg (by omega), if_pos (by omega)]) (by omega)
    · refine Y_aload_0 i_X9_row_17 ?_
      refine X_getR i_X9_row_18 f_X9_31 rfl ?_
      refine Y_callV (k' := kX6_isFull) i_X9_row_21 l_X9_76 m_X6_isFull (c_X6_isFull_5 (M := M) (L := M 5) rfl (by omega)) rfl rfl rfl rfl rfl ?_
      refine Y_ifq_eq i_X9_row_24 (tgt := 34) rfl  (fun h24 => ?_) (fun h24 => ?_)
      · refine Y_aload_0 i_X9_row_34 ?_
        refine X_getR i_X9_row_35 f_X9_31 rfl ?_
        refine Y_iload_1 i_X9_row_38 ?_
        refine Y_callV (k' := kX6_add) i_X9_row_39 l_X9_80 m_X6_add (zctm 5 (c_X6_add_5 (M := M) (L := M 5) (by omega))) rfl rfl rfl rfl rfl ?_
        refine X_iret i_X9_row_42 rfl ?_
        exact zan0 (by unfold w_row; rw [if_neg (by omega), if_neg (by omega)]) (rfl) (zex0 _)
      · refine Y_aload_0 i_X9_row_27 ?_
        refine X_bipush i_X9_row_28 (by decide +kernel) ?_
        refine Y_callV (k' := kX9_refuse) i_X9_row_30 l_X9_72 m_X9_refuse (c_X9_refuse (by omega) (by omega)) rfl rfl rfl rfl rfl ?_
        refine X_iret i_X9_row_33 rfl ?_
        exact zan1 (by unfold w_row; rw [if_neg (by omega), if_pos (by omega)]) (by omega)
  · refine Y_aload_0 i_X9_row_4 ?_
    refine X_bipush i_X9_row_5 (by decide +kernel) ?_
    refine Y_callV (k' := kX9_refuse) i_X9_row_7 l_X9_72 m_X9_refuse (c_X9_refuse (by omega) (by omega)) rfl rfl rfl rfl rfl ?_
    refine X_iret i_X9_row_10 rfl ?_
    exact zan1 (by unfold w_row; rw [if_pos (by omega)]) (by omega)
def w_clear (M : zMem) : Int := 0
def a_clear (M : zMem) : Int := M 5 1 0
def m_clear (M : zMem) : zMem := zs M 5 (zwr (M 5) 1 0 0)
set_option maxRecDepth 100000 in
theorem c_X9_clear {M : zMem} (hI : zIv M) : zCt kX9_clear 1 [.ref 36] M (zAn (w_clear M) (.int (zii (w_clear M))) (.int (zii (a_clear M))) (m_clear M) M) := by
  obtain ⟨hA, hL, hT, hD, hPi, hR1, hR2⟩ := hI
  have h6 := hA.1
  unfold zH at h6
  refine zMet (by decide) (Nat.le_of_ble_eq_true rfl) ?_
  show zX kX9_clear 1 0 [some (.ref 36), none] [] _ _
  refine Y_aload_0 i_X9_clear_0 ?_
  refine X_getR i_X9_clear_1 f_X9_31 rfl ?_
  refine Y_getI i_X9_clear_4 f_X9_292 rfl rfl ?_
  refine Y_istore_1 i_X9_clear_7 rfl rfl ?_
  refine Y_aload_0 i_X9_clear_8 ?_
  refine X_getR i_X9_clear_9 f_X9_31 rfl ?_
  refine Y_callVv (k' := kX6_empty) i_X9_clear_12 l_X9_89 m_X6_empty (zctm 5 (c_X6_empty_5 (M := M) (L := M 5))) rfl rfl rfl rfl rfl ?_
  refine Y_iload_1 i_X9_clear_15 ?_
  refine X_iret i_X9_clear_16 rfl ?_
  exact zan0 (rfl) (rfl) (zex0 _)
def w_feed (M : zMem) (v : Int) : Int := if v < 0 then -4 else if 255 < v ∨ 96 ≤ M 4 1 0 then -6 else 0
def a_feed (M : zMem) (v : Int) : Int := M 4 1 0 + 1
def m_feed (M : zMem) (v : Int) : zMem := zs M 4 (zwr (zwr (M 4) 0 (M 4 1 0) v) 1 0 (M 4 1 0 + 1))
set_option maxRecDepth 100000 in
theorem c_X9_feed {M : zMem} (hI : zIv M) {v : Int} (h_v : zR v) : zCt kX9_feed 2 [.ref 36, .int (zii v)] M (zAn (w_feed M v) (.int (zii (w_feed M v))) (.int (zii (a_feed M v))) (m_feed M v) M) := by
  obtain ⟨hA, hL, hT, hD, hPi, hR1, hR2⟩ := hI
  have h6 := hA.1
  unfold zH at h6
  have b_v := h_v.1
  have c_v := h_v.2
  have hL1 := hL.1
  refine zMet (by decide) (Nat.le_of_ble_eq_true rfl) ?_
  show zX kX9_feed 2 0 [some (.ref 36), some (.int (zii v))] [] _ _
  refine Y_iload_1 i_X9_feed_0 ?_
  refine X_if_ge i_X9_feed_1 (tgt := 11) rfl ⟨by omega, by omega⟩ (fun h1 => ?_) (fun h1 => ?_)
  · refine Y_iload_1 i_X9_feed_11 ?_
    refine X_sipush i_X9_feed_12 (by decide +kernel) ?_
    refine X_icmp_gt i_X9_feed_15 (tgt := 28) rfl ⟨by omega, by omega⟩ ⟨by omega, by omega⟩ (fun h15 => ?_) (fun h15 => ?_)
    · refine Y_aload_0 i_X9_feed_28 ?_
      refine X_bipush i_X9_feed_29 (by decide +kernel) ?_
      refine Y_callV (k' := kX9_refuse) i_X9_feed_31 l_X9_72 m_X9_refuse (c_X9_refuse (by omega) (by omega)) rfl rfl rfl rfl rfl ?_
      refine X_iret i_X9_feed_34 rfl ?_
      exact zan1 (by unfold w_feed; rw [if_neg (by omega), if_pos (by omega)]) (by omega)
    · refine Y_aload_0 i_X9_feed_18 ?_
      refine X_getR i_X9_feed_19 f_X9_27 rfl ?_
      refine Y_callV (k' := kX6_isFull) i_X9_feed_22 l_X9_76 m_X6_isFull (c_X6_isFull_4 (M := M) (L := M 4) rfl (by omega)) rfl rfl rfl rfl rfl ?_
      refine Y_ifq_eq i_X9_feed_25 (tgt := 35) rfl  (fun h25 => ?_) (fun h25 => ?_)
      · refine Y_aload_0 i_X9_feed_35 ?_
        refine X_getR i_X9_feed_36 f_X9_27 rfl ?_
        refine Y_iload_1 i_X9_feed_39 ?_
        refine Y_callV (k' := kX6_add) i_X9_feed_40 l_X9_80 m_X6_add (zctm 4 (c_X6_add_4 (M := M) (L := M 4) (by omega))) rfl rfl rfl rfl rfl ?_
        refine X_iret i_X9_feed_43 rfl ?_
        exact zan0 (by unfold w_feed; rw [if_neg (by omega), if_neg (by omega)]) (rfl) (zex0 _)
      · refine Y_aload_0 i_X9_feed_28 ?_
        refine X_bipush i_X9_feed_29 (by decide +kernel) ?_
        refine Y_callV (k' := kX9_refuse) i_X9_feed_31 l_X9_72 m_X9_refuse (c_X9_refuse (by omega) (by omega)) rfl rfl rfl rfl rfl ?_
        refine X_iret i_X9_feed_34 rfl ?_
        exact zan1 (by unfold w_feed; rw [if_neg (by omega), if_pos (by omega)]) (by omega)
  · refine Y_aload_0 i_X9_feed_4 ?_
    refine X_bipush i_X9_feed_5 (by decide +kernel) ?_
    refine Y_callV (k' := kX9_refuse) i_X9_feed_7 l_X9_72 m_X9_refuse (c_X9_refuse (by omega) (by omega)) rfl rfl rfl rfl rfl ?_
    refine X_iret i_X9_feed_10 rfl ?_
    exact zan1 (by unfold w_feed; rw [if_pos (by omega)]) (by omega)
def w_house (M : zMem) : Int := 0
def a_house (M : zMem) : Int := (sHa (M 4) (M 0)).1
def m_house (M : zMem) : zMem := if 0 < (sHa (M 4) (M 0)).1 then zs (zs (zs M 4 (zwr (M 4) 1 0 0)) 0 (sHa (M 4) (M 0)).2) 6 (zwr (M 6) 5 1 0) else (zs M 4 (zwr (M 4) 1 0 0))
set_option maxRecDepth 100000 in
theorem c_X9_house {M : zMem} (hI : zIv M) : zCt kX9_house 7 [.ref 36] M (zAn (w_house M) (.int (zii (w_house M))) (.int (zii (a_house M))) (m_house M) M) := by
  obtain ⟨hA, hL, hT, hD, hPi, hR1, hR2⟩ := hI
  have h6 := hA.1
  unfold zH at h6
  have hha := sHa_in hL (M 0)
  refine zMet (by decide) (Nat.le_of_ble_eq_true rfl) ?_
  show zX kX9_house 7 0 [some (.ref 36), none] [] _ _
  refine Y_aload_0 i_X9_house_0 ?_
  refine X_getR i_X9_house_1 f_X9_27 rfl ?_
  refine Y_aload_0 i_X9_house_4 ?_
  refine X_getR i_X9_house_5 f_X9_10 rfl ?_
  refine Y_aload_0 i_X9_house_8 ?_
  refine X_getR i_X9_house_9 f_X9_16 rfl ?_
  refine Y_callSq (k' := kX8_follow) i_X9_house_12 l_X9_83 m_X8_follow (zctm 1 (c_X8_follow (M := M) (A := M 0) (B := M 1) rfl hL hA)) rfl rfl rfl rfl ?_
  intro r9 M9 hr9
  obtain ⟨rfl, C9, rfl, hC9⟩ := hr9
  change zX _ _ _ _ (.int _ :: []) _ _
  refine Y_istore_1 i_X9_house_15 rfl rfl ?_
  refine Y_aload_0 i_X9_house_16 ?_
  refine X_getR i_X9_house_17 f_X9_27 rfl ?_
  refine Y_callVv (k' := kX6_empty) i_X9_house_20 l_X9_89 m_X6_empty (zctm 4 (c_X6_empty_4 (M := zs M 1 C9) (L := M 4))) rfl rfl rfl rfl rfl ?_
  refine Y_iload_1 i_X9_house_23 ?_
  refine X_if_le i_X9_house_24 (tgt := 45) rfl ⟨by omega, by omega⟩ (fun h24 => ?_) (fun h24 => ?_)
  · refine Y_iload_1 i_X9_house_45 ?_
    refine X_iret i_X9_house_46 rfl ?_
    exact zan0 (rfl) (rfl) (by unfold m_house; rw [if_neg (by omega)]; exact zexs zex1)
  · refine Y_aload_0 i_X9_house_27 ?_
    refine X_getR i_X9_house_28 f_X9_10 rfl ?_
    refine Y_aload_0 i_X9_house_31 ?_
    refine X_getR i_X9_house_32 f_X9_16 rfl ?_
    refine Y_callVv (k' := kX0_copyFrom) i_X9_house_35 l_X9_92 m_X0_copyFrom (zctm 0 (c_X0_copyFrom (i := 0) (j := 1) (M := zs (zs M 1 C9) 4 (zwr (M 4) 1 0 0)) (A := M 0) (by omega) (by omega) rfl)) rfl rfl rfl rfl rfl ?_
    refine Y_aload_0 i_X9_house_38 ?_
    refine X_getR i_X9_house_39 f_X9_37 rfl ?_
    refine Y_callVv (k' := kX1_forget) i_X9_house_42 l_X9_96 m_X1_forget (zctm 6 (c_X1_forget (M := zs (zs (zs M 1 C9) 4 (zwr (M 4) 1 0 0)) 0 C9) (D := M 6))) rfl rfl rfl rfl rfl ?_
    refine Y_iload_1 i_X9_house_45 ?_
    refine X_iret i_X9_house_46 rfl ?_
    exact zan0 (rfl) (rfl) (by unfold m_house; rw [if_pos (by omega), ← hC9 (by omega)]; exact zexs (zexs (zexs zex1)))
def w_image (M : zMem) : Int := 0
def a_image (M : zMem) : Int := M 0 6 3
def m_image (M : zMem) : zMem := zs (zs M 2 (M 0)) 9 (zwr (M 9) 1 0 1)
set_option maxRecDepth 100000 in
theorem c_X9_image {M : zMem} (hI : zIv M) : zCt kX9_image 2 [.ref 36] M (zAn (w_image M) (.int (zii (w_image M))) (.int (zii (a_image M))) (m_image M) M) := by
  obtain ⟨hA, hL, hT, hD, hPi, hR1, hR2⟩ := hI
  have h6 := hA.1
  unfold zH at h6
  refine zMet (by decide) (Nat.le_of_ble_eq_true rfl) ?_
  show zX kX9_image 2 0 [some (.ref 36)] [] _ _
  refine Y_aload_0 i_X9_image_0 ?_
  refine X_getR i_X9_image_1 f_X9_19 rfl ?_
  refine Y_aload_0 i_X9_image_4 ?_
  refine X_getR i_X9_image_5 f_X9_10 rfl ?_
  refine Y_callVv (k' := kX0_copyFrom) i_X9_image_8 l_X9_92 m_X0_copyFrom (zctm 2 (c_X0_copyFrom (i := 2) (j := 0) (M := M) (A := M 2) (by omega) (by omega) rfl)) rfl rfl rfl rfl rfl ?_
  refine X_mm (zs_id _ 9) ?_
  refine Y_aload_0 i_X9_image_11 ?_
  refine X_iconst i_X9_image_12 ?_
  refine Y_putZ i_X9_image_13 f_X9_68 rfl t_6_10 (by omega) (zp0 _ _ _ _ _ _) ?_
  refine Y_aload_0 i_X9_image_16 ?_
  refine X_getR i_X9_image_17 f_X9_10 rfl ?_
  refine Y_getI i_X9_image_20 f_X9_296 rfl (zg1 rfl rfl) ?_
  refine X_iret i_X9_image_23 rfl ?_
  exact zan0 (rfl) (rfl) (zex0 _)
def w_restore (M : zMem) : Int := if M 9 1 0 = 0 then -3 else 0
def a_restore (M : zMem) : Int := M 2 6 3
def m_restore (M : zMem) : zMem := zs (zs M 0 (M 2)) 6 (zwr (M 6) 5 1 0)
set_option maxRecDepth 100000 in
theorem c_X9_restore {M : zMem} (hI : zIv M) : zCt kX9_restore 2 [.ref 36] M (zAn (w_restore M) (.int (zii (w_restore M))) (.int (zii (a_restore M))) (m_restore M) M) := by
  obtain ⟨hA, hL, hT, hD, hPi, hR1, hR2⟩ := hI
  have h6 := hA.1
  unfold zH at h6
  refine zMet (by decide) (Nat.le_of_ble_eq_true rfl) ?_
  show zX kX9_restore 2 0 [some (.ref 36)] [] _ _
  refine Y_aload_0 i_X9_restore_0 ?_
  refine Y_getI i_X9_restore_1 f_X9_68 rfl rfl ?_
  refine Y_if_ne i_X9_restore_4 (tgt := 14) rfl ⟨by omega, by omega⟩ (fun h4 => ?_) (fun h4 => ?_)
  · refine Y_aload_0 i_X9_restore_14 ?_
    refine X_getR i_X9_restore_15 f_X9_10 rfl ?_
    refine Y_aload_0 i_X9_restore_18 ?_
    refine X_getR i_X9_restore_19 f_X9_19 rfl ?_
    refine Y_callVv (k' := kX0_copyFrom) i_X9_restore_22 l_X9_92 m_X0_copyFrom (zctm 0 (c_X0_copyFrom (i := 0) (j := 2) (M := M) (A := M 0) (by omega) (by omega) rfl)) rfl rfl rfl rfl rfl ?_
    refine Y_aload_0 i_X9_restore_25 ?_
    refine X_getR i_X9_restore_26 f_X9_37 rfl ?_
    refine Y_callVv (k' := kX1_forget) i_X9_restore_29 l_X9_96 m_X1_forget (zctm 6 (c_X1_forget (M := zs M 0 (M 2)) (D := M 6))) rfl rfl rfl rfl rfl ?_
    refine Y_aload_0 i_X9_restore_32 ?_
    refine X_getR i_X9_restore_33 f_X9_10 rfl ?_
    refine Y_getI i_X9_restore_36 f_X9_296 rfl rfl ?_
    refine X_iret i_X9_restore_39 rfl ?_
    exact zan0 (by unfold w_restore; rw [if_neg (by omega)]) (rfl) (zex0 _)
  · refine Y_aload_0 i_X9_restore_7 ?_
    refine X_bipush i_X9_restore_8 (by decide +kernel) ?_
    refine Y_callV (k' := kX9_refuse) i_X9_restore_10 l_X9_72 m_X9_refuse (c_X9_refuse (by omega) (by omega)) rfl rfl rfl rfl rfl ?_
    refine X_iret i_X9_restore_13 rfl ?_
    exact zan1 (by unfold w_restore; rw [if_pos (by omega)]) (by omega)
def w_count (M : zMem) (w : Int) : Int := 0
def a_count (M : zMem) (w : Int) : Int := if 5 ≤ w ∧ w ≤ 8 then sMany (M 0) (w - 5) else if 11 ≤ w ∧ w ≤ 16 then M 9 0 (w - 11) else if w = 0 then M 0 6 0 else if w = 1 then M 0 6 3 else if w = 2 then M 0 6 1 else if w = 3 then M 0 6 2 else if w = 4 then M 0 6 4 else if w = 9 then M 4 1 0 else if w = 10 then M 5 1 0 else if w = 17 then M 6 5 1 else -9
set_option maxRecDepth 100000 in
theorem c_X9_count {M : zMem} (hI : zIv M) {w : Int} (h_w : zR w) : zCt kX9_count 1 [.ref 36, .int (zii w)] M (zAn (w_count M w) (.int (zii (w_count M w))) (.int (zii (a_count M w))) M M) := by
  obtain ⟨hA, hL, hT, hD, hPi, hR1, hR2⟩ := hI
  have h6 := hA.1
  unfold zH at h6
  have b_w := h_w.1
  have c_w := h_w.2
  refine zMet (by decide) (Nat.le_of_ble_eq_true rfl) ?_
  show zX kX9_count 1 0 [some (.ref 36), some (.int (zii w))] [] _ _
  refine Y_iload_1 i_X9_count_0 ?_
  refine X_iconst i_X9_count_1 ?_
  refine X_icmp_lt i_X9_count_2 (tgt := 22) rfl ⟨by omega, by omega⟩ ⟨by omega, by omega⟩ (fun h2 => ?_) (fun h2 => ?_)
  · refine Y_iload_1 i_X9_count_22 ?_
    refine X_bipush i_X9_count_23 (by decide +kernel) ?_
    refine X_icmp_lt i_X9_count_25 (tgt := 44) rfl ⟨by omega, by omega⟩ ⟨by omega, by omega⟩ (fun h25 => ?_) (fun h25 => ?_)
    · refine Y_iload_1 i_X9_count_44 ?_
      rcases (by omega : w = 0 ∨ w = 1 ∨ w = 2 ∨ w = 3 ∨ w = 4 ∨ w = 9 ∨ w = 10 ∨ w = 17 ∨ (w < 0 ∨ 17 < w)) with hsw | hsw | hsw | hsw | hsw | hsw | hsw | hsw | hsw
      · refine X_tabIn i_X9_count_45 ⟨by omega, by omega⟩ (by omega) (by omega) (off := 87) (by rw [hsw]; rfl) (tgt := 132) rfl ?_
        refine Y_aload_0 i_X9_count_132 ?_
        refine X_getR i_X9_count_133 f_X9_10 rfl ?_
        refine Y_getI i_X9_count_136 f_X9_249 rfl rfl ?_
        refine X_iret i_X9_count_139 rfl ?_
        exact zan0 (rfl) (by unfold a_count; rw [if_neg (by omega), if_neg (by omega), if_pos hsw]) (zex0 _)
      · refine X_tabIn i_X9_count_45 ⟨by omega, by omega⟩ (by omega) (by omega) (off := 95) (by rw [hsw]; rfl) (tgt := 140) rfl ?_
        refine Y_aload_0 i_X9_count_140 ?_
        refine X_getR i_X9_count_141 f_X9_10 rfl ?_
        refine Y_getI i_X9_count_144 f_X9_296 rfl rfl ?_
        refine X_iret i_X9_count_147 rfl ?_
        exact zan0 (rfl) (by unfold a_count; rw [if_neg (by omega), if_neg (by omega), if_neg (by omega), if_pos hsw]) (zex0 _)
      · refine X_tabIn i_X9_count_45 ⟨by omega, by omega⟩ (by omega) (by omega) (off := 103) (by rw [hsw]; rfl) (tgt := 148) rfl ?_
        refine Y_aload_0 i_X9_count_148 ?_
        refine X_getR i_X9_count_149 f_X9_10 rfl ?_
        refine Y_getI i_X9_count_152 f_X9_140 rfl rfl ?_
        refine X_iret i_X9_count_155 rfl ?_
        exact zan0 (rfl) (by unfold a_count; rw [if_neg (by omega), if_neg (by omega), if_neg (by omega), if_neg (by omega), if_pos hsw]) (zex0 _)
      · refine X_tabIn i_X9_count_45 ⟨by omega, by omega⟩ (by omega) (by omega) (off := 111) (by rw [hsw]; rfl) (tgt := 156) rfl ?_
        refine Y_aload_0 i_X9_count_156 ?_
        refine X_getR i_X9_count_157 f_X9_10 rfl ?_
        refine Y_getI i_X9_count_160 f_X9_144 rfl rfl ?_
        refine X_iret i_X9_count_163 rfl ?_
        exact zan0 (rfl) (by unfold a_count; rw [if_neg (by omega), if_neg (by omega), if_neg (by omega), if_neg (by omega), if_neg (by omega), if_pos hsw]) (zex0 _)
      · refine X_tabIn i_X9_count_45 ⟨by omega, by omega⟩ (by omega) (by omega) (off := 119) (by rw [hsw]; rfl) (tgt := 164) rfl ?_
        refine Y_aload_0 i_X9_count_164 ?_
        refine X_getR i_X9_count_165 f_X9_10 rfl ?_
        refine Y_getI i_X9_count_168 f_X9_299 rfl rfl ?_
        refine X_iret i_X9_count_171 rfl ?_
        exact zan0 (rfl) (by unfold a_count; rw [if_neg (by omega), if_neg (by omega), if_neg (by omega), if_neg (by omega), if_neg (by omega), if_neg (by omega), if_pos hsw]) (zex0 _)
      · refine X_tabIn i_X9_count_45 ⟨by omega, by omega⟩ (by omega) (by omega) (off := 127) (by rw [hsw]; rfl) (tgt := 172) rfl ?_
        refine Y_aload_0 i_X9_count_172 ?_
        refine X_getR i_X9_count_173 f_X9_27 rfl ?_
        refine Y_getI i_X9_count_176 f_X9_292 rfl rfl ?_
        refine X_iret i_X9_count_179 rfl ?_
        exact zan0 (rfl) (by unfold a_count; rw [if_neg (by omega), if_neg (by omega), if_neg (by omega), if_neg (by omega), if_neg (by omega), if_neg (by omega), if_neg (by omega), if_pos hsw]) (zex0 _)
      · refine X_tabIn i_X9_count_45 ⟨by omega, by omega⟩ (by omega) (by omega) (off := 135) (by rw [hsw]; rfl) (tgt := 180) rfl ?_
        refine Y_aload_0 i_X9_count_180 ?_
        refine X_getR i_X9_count_181 f_X9_31 rfl ?_
        refine Y_getI i_X9_count_184 f_X9_292 rfl rfl ?_
        refine X_iret i_X9_count_187 rfl ?_
        exact zan0 (rfl) (by unfold a_count; rw [if_neg (by omega), if_neg (by omega), if_neg (by omega), if_neg (by omega), if_neg (by omega), if_neg (by omega), if_neg (by omega), if_neg (by omega), if_pos hsw]) (zex0 _)
      · refine X_tabIn i_X9_count_45 ⟨by omega, by omega⟩ (by omega) (by omega) (off := 143) (by rw [hsw]; rfl) (tgt := 188) rfl ?_
        refine Y_aload_0 i_X9_count_188 ?_
        refine X_getR i_X9_count_189 f_X9_37 rfl ?_
        refine Y_getI i_X9_count_192 f_X9_153 rfl rfl ?_
        refine X_iret i_X9_count_195 rfl ?_
        exact zan0 (rfl) (by unfold a_count; rw [if_neg (by omega), if_neg (by omega), if_neg (by omega), if_neg (by omega), if_neg (by omega), if_neg (by omega), if_neg (by omega), if_neg (by omega), if_neg (by omega), if_pos hsw]) (zex0 _)
      · refine X_tabOut i_X9_count_45 ⟨by omega, by omega⟩ (by omega) (tgt := 196) rfl ?_
        refine X_bipush i_X9_count_196 (by decide +kernel) ?_
        refine X_iret i_X9_count_198 rfl ?_
        exact zan0 (rfl) (by unfold a_count; rw [if_neg (by omega), if_neg (by omega), if_neg (by omega), if_neg (by omega), if_neg (by omega), if_neg (by omega), if_neg (by omega), if_neg (by omega), if_neg (by omega), if_neg (by omega)]) (zex0 _)
    · refine Y_iload_1 i_X9_count_28 ?_
      refine X_bipush i_X9_count_29 (by decide +kernel) ?_
      refine X_icmp_gt i_X9_count_31 (tgt := 44) rfl ⟨by omega, by omega⟩ ⟨by omega, by omega⟩ (fun h31 => ?_) (fun h31 => ?_)
      · refine Y_iload_1 i_X9_count_44 ?_
        rcases (by omega : w = 0 ∨ w = 1 ∨ w = 2 ∨ w = 3 ∨ w = 4 ∨ w = 9 ∨ w = 10 ∨ w = 17 ∨ (w < 0 ∨ 17 < w)) with hsw | hsw | hsw | hsw | hsw | hsw | hsw | hsw | hsw
        · refine X_tabIn i_X9_count_45 ⟨by omega, by omega⟩ (by omega) (by omega) (off := 87) (by rw [hsw]; rfl) (tgt := 132) rfl ?_
          refine Y_aload_0 i_X9_count_132 ?_
          refine X_getR i_X9_count_133 f_X9_10 rfl ?_
          refine Y_getI i_X9_count_136 f_X9_249 rfl rfl ?_
          refine X_iret i_X9_count_139 rfl ?_
          exact zan0 (rfl) (by unfold a_count; rw [if_neg (by omega), if_neg (by omega), if_pos hsw]) (zex0 _)
        · refine X_tabIn i_X9_count_45 ⟨by omega, by omega⟩ (by omega) (by omega) (off := 95) (by rw [hsw]; rfl) (tgt := 140) rfl ?_
          refine Y_aload_0 i_X9_count_140 ?_
          refine X_getR i_X9_count_141 f_X9_10 rfl ?_
          refine Y_getI i_X9_count_144 f_X9_296 rfl rfl ?_
          refine X_iret i_X9_count_147 rfl ?_
          exact zan0 (rfl) (by unfold a_count; rw [if_neg (by omega), if_neg (by omega), if_neg (by omega), if_pos hsw]) (zex0 _)
        · refine X_tabIn i_X9_count_45 ⟨by omega, by omega⟩ (by omega) (by omega) (off := 103) (by rw [hsw]; rfl) (tgt := 148) rfl ?_
          refine Y_aload_0 i_X9_count_148 ?_
          refine X_getR i_X9_count_149 f_X9_10 rfl ?_
          refine Y_getI i_X9_count_152 f_X9_140 rfl rfl ?_
          refine X_iret i_X9_count_155 rfl ?_
          exact zan0 (rfl) (by unfold a_count; rw [if_neg (by omega), if_neg (by omega), if_neg (by omega), if_neg (by omega), if_pos hsw]) (zex0 _)
        · refine X_tabIn i_X9_count_45 ⟨by omega, by omega⟩ (by omega) (by omega) (off := 111) (by rw [hsw]; rfl) (tgt := 156) rfl ?_
          refine Y_aload_0 i_X9_count_156 ?_
          refine X_getR i_X9_count_157 f_X9_10 rfl ?_
          refine Y_getI i_X9_count_160 f_X9_144 rfl rfl ?_
          refine X_iret i_X9_count_163 rfl ?_
          exact zan0 (rfl) (by unfold a_count; rw [if_neg (by omega), if_neg (by omega), if_neg (by omega), if_neg (by omega), if_neg (by omega), if_pos hsw]) (zex0 _)
        · refine X_tabIn i_X9_count_45 ⟨by omega, by omega⟩ (by omega) (by omega) (off := 119) (by rw [hsw]; rfl) (tgt := 164) rfl ?_
          refine Y_aload_0 i_X9_count_164 ?_
          refine X_getR i_X9_count_165 f_X9_10 rfl ?_
          refine Y_getI i_X9_count_168 f_X9_299 rfl rfl ?_
          refine X_iret i_X9_count_171 rfl ?_
          exact zan0 (rfl) (by unfold a_count; rw [if_neg (by omega), if_neg (by omega), if_neg (by omega), if_neg (by omega), if_neg (by omega), if_neg (by omega), if_pos hsw]) (zex0 _)
        · refine X_tabIn i_X9_count_45 ⟨by omega, by omega⟩ (by omega) (by omega) (off := 127) (by rw [hsw]; rfl) (tgt := 172) rfl ?_
          refine Y_aload_0 i_X9_count_172 ?_
          refine X_getR i_X9_count_173 f_X9_27 rfl ?_
          refine Y_getI i_X9_count_176 f_X9_292 rfl rfl ?_
          refine X_iret i_X9_count_179 rfl ?_
          exact zan0 (rfl) (by unfold a_count; rw [if_neg (by omega), if_neg (by omega), if_neg (by omega), if_neg (by omega), if_neg (by omega), if_neg (by omega), if_neg (by omega), if_pos hsw]) (zex0 _)
        · refine X_tabIn i_X9_count_45 ⟨by omega, by omega⟩ (by omega) (by omega) (off := 135) (by rw [hsw]; rfl) (tgt := 180) rfl ?_
          refine Y_aload_0 i_X9_count_180 ?_
          refine X_getR i_X9_count_181 f_X9_31 rfl ?_
          refine Y_getI i_X9_count_184 f_X9_292 rfl rfl ?_
          refine X_iret i_X9_count_187 rfl ?_
          exact zan0 (rfl) (by unfold a_count; rw [if_neg (by omega), if_neg (by omega), if_neg (by omega), if_neg (by omega), if_neg (by omega), if_neg (by omega), if_neg (by omega), if_neg (by omega), if_pos hsw]) (zex0 _)
        · refine X_tabIn i_X9_count_45 ⟨by omega, by omega⟩ (by omega) (by omega) (off := 143) (by rw [hsw]; rfl) (tgt := 188) rfl ?_
          refine Y_aload_0 i_X9_count_188 ?_
          refine X_getR i_X9_count_189 f_X9_37 rfl ?_
          refine Y_getI i_X9_count_192 f_X9_153 rfl rfl ?_
          refine X_iret i_X9_count_195 rfl ?_
          exact zan0 (rfl) (by unfold a_count; rw [if_neg (by omega), if_neg (by omega), if_neg (by omega), if_neg (by omega), if_neg (by omega), if_neg (by omega), if_neg (by omega), if_neg (by omega), if_neg (by omega), if_pos hsw]) (zex0 _)
        · refine X_tabOut i_X9_count_45 ⟨by omega, by omega⟩ (by omega) (tgt := 196) rfl ?_
          refine X_bipush i_X9_count_196 (by decide +kernel) ?_
          refine X_iret i_X9_count_198 rfl ?_
          exact zan0 (rfl) (by unfold a_count; rw [if_neg (by omega), if_neg (by omega), if_neg (by omega), if_neg (by omega), if_neg (by omega), if_neg (by omega), if_neg (by omega), if_neg (by omega), if_neg (by omega), if_neg (by omega)]) (zex0 _)
      · refine Y_aload_0 i_X9_count_34 ?_
        refine X_getR i_X9_count_35 f_X9_64 rfl ?_
        refine Y_iload_1 i_X9_count_38 ?_
        refine X_bipush i_X9_count_39 (by decide +kernel) ?_
        refine X_isub i_X9_count_41 ?_
        refine Y_iald i_X9_count_42 rfl ⟨by omega, by omega⟩ rfl rfl ?_
        refine X_iret i_X9_count_43 rfl ?_
        exact zan0 (rfl) (by unfold a_count; rw [if_neg (by omega), if_pos (by omega)]) (zex0 _)
  · refine Y_iload_1 i_X9_count_5 ?_
    refine X_bipush i_X9_count_6 (by decide +kernel) ?_
    refine X_icmp_gt i_X9_count_8 (tgt := 22) rfl ⟨by omega, by omega⟩ ⟨by omega, by omega⟩ (fun h8 => ?_) (fun h8 => ?_)
    · refine Y_iload_1 i_X9_count_22 ?_
      refine X_bipush i_X9_count_23 (by decide +kernel) ?_
      refine X_icmp_lt i_X9_count_25 (tgt := 44) rfl ⟨by omega, by omega⟩ ⟨by omega, by omega⟩ (fun h25 => ?_) (fun h25 => ?_)
      · refine Y_iload_1 i_X9_count_44 ?_
        rcases (by omega : w = 0 ∨ w = 1 ∨ w = 2 ∨ w = 3 ∨ w = 4 ∨ w = 9 ∨ w = 10 ∨ w = 17 ∨ (w < 0 ∨ 17 < w)) with hsw | hsw | hsw | hsw | hsw | hsw | hsw | hsw | hsw
        · refine X_tabIn i_X9_count_45 ⟨by omega, by omega⟩ (by omega) (by omega) (off := 87) (by rw [hsw]; rfl) (tgt := 132) rfl ?_
          refine Y_aload_0 i_X9_count_132 ?_
          refine X_getR i_X9_count_133 f_X9_10 rfl ?_
          refine Y_getI i_X9_count_136 f_X9_249 rfl rfl ?_
          refine X_iret i_X9_count_139 rfl ?_
          exact zan0 (rfl) (by unfold a_count; rw [if_neg (by omega), if_neg (by omega), if_pos hsw]) (zex0 _)
        · refine X_tabIn i_X9_count_45 ⟨by omega, by omega⟩ (by omega) (by omega) (off := 95) (by rw [hsw]; rfl) (tgt := 140) rfl ?_
          refine Y_aload_0 i_X9_count_140 ?_
          refine X_getR i_X9_count_141 f_X9_10 rfl ?_
          refine Y_getI i_X9_count_144 f_X9_296 rfl rfl ?_
          refine X_iret i_X9_count_147 rfl ?_
          exact zan0 (rfl) (by unfold a_count; rw [if_neg (by omega), if_neg (by omega), if_neg (by omega), if_pos hsw]) (zex0 _)
        · refine X_tabIn i_X9_count_45 ⟨by omega, by omega⟩ (by omega) (by omega) (off := 103) (by rw [hsw]; rfl) (tgt := 148) rfl ?_
          refine Y_aload_0 i_X9_count_148 ?_
          refine X_getR i_X9_count_149 f_X9_10 rfl ?_
          refine Y_getI i_X9_count_152 f_X9_140 rfl rfl ?_
          refine X_iret i_X9_count_155 rfl ?_
          exact zan0 (rfl) (by unfold a_count; rw [if_neg (by omega), if_neg (by omega), if_neg (by omega), if_neg (by omega), if_pos hsw]) (zex0 _)
        · refine X_tabIn i_X9_count_45 ⟨by omega, by omega⟩ (by omega) (by omega) (off := 111) (by rw [hsw]; rfl) (tgt := 156) rfl ?_
          refine Y_aload_0 i_X9_count_156 ?_
          refine X_getR i_X9_count_157 f_X9_10 rfl ?_
          refine Y_getI i_X9_count_160 f_X9_144 rfl rfl ?_
          refine X_iret i_X9_count_163 rfl ?_
          exact zan0 (rfl) (by unfold a_count; rw [if_neg (by omega), if_neg (by omega), if_neg (by omega), if_neg (by omega), if_neg (by omega), if_pos hsw]) (zex0 _)
        · refine X_tabIn i_X9_count_45 ⟨by omega, by omega⟩ (by omega) (by omega) (off := 119) (by rw [hsw]; rfl) (tgt := 164) rfl ?_
          refine Y_aload_0 i_X9_count_164 ?_
          refine X_getR i_X9_count_165 f_X9_10 rfl ?_
          refine Y_getI i_X9_count_168 f_X9_299 rfl rfl ?_
          refine X_iret i_X9_count_171 rfl ?_
          exact zan0 (rfl) (by unfold a_count; rw [if_neg (by omega), if_neg (by omega), if_neg (by omega), if_neg (by omega), if_neg (by omega), if_neg (by omega), if_pos hsw]) (zex0 _)
        · refine X_tabIn i_X9_count_45 ⟨by omega, by omega⟩ (by omega) (by omega) (off := 127) (by rw [hsw]; rfl) (tgt := 172) rfl ?_
          refine Y_aload_0 i_X9_count_172 ?_
          refine X_getR i_X9_count_173 f_X9_27 rfl ?_
          refine Y_getI i_X9_count_176 f_X9_292 rfl rfl ?_
          refine X_iret i_X9_count_179 rfl ?_
          exact zan0 (rfl) (by unfold a_count; rw [if_neg (by omega), if_neg (by omega), if_neg (by omega), if_neg (by omega), if_neg (by omega), if_neg (by omega), if_neg (by omega), if_pos hsw]) (zex0 _)
        · refine X_tabIn i_X9_count_45 ⟨by omega, by omega⟩ (by omega) (by omega) (off := 135) (by rw [hsw]; rfl) (tgt := 180) rfl ?_
          refine Y_aload_0 i_X9_count_180 ?_
          refine X_getR i_X9_count_181 f_X9_31 rfl ?_
          refine Y_getI i_X9_count_184 f_X9_292 rfl rfl ?_
          refine X_iret i_X9_count_187 rfl ?_
          exact zan0 (rfl) (by unfold a_count; rw [if_neg (by omega), if_neg (by omega), if_neg (by omega), if_neg (by omega), if_neg (by omega), if_neg (by omega), if_neg (by omega), if_neg (by omega), if_pos hsw]) (zex0 _)
        · refine X_tabIn i_X9_count_45 ⟨by omega, by omega⟩ (by omega) (by omega) (off := 143) (by rw [hsw]; rfl) (tgt := 188) rfl ?_
          refine Y_aload_0 i_X9_count_188 ?_
          refine X_getR i_X9_count_189 f_X9_37 rfl ?_
          refine Y_getI i_X9_count_192 f_X9_153 rfl rfl ?_
          refine X_iret i_X9_count_195 rfl ?_
          exact zan0 (rfl) (by unfold a_count; rw [if_neg (by omega), if_neg (by omega), if_neg (by omega), if_neg (by omega), if_neg (by omega), if_neg (by omega), if_neg (by omega), if_neg (by omega), if_neg (by omega), if_pos hsw]) (zex0 _)
        · refine X_tabOut i_X9_count_45 ⟨by omega, by omega⟩ (by omega) (tgt := 196) rfl ?_
          refine X_bipush i_X9_count_196 (by decide +kernel) ?_
          refine X_iret i_X9_count_198 rfl ?_
          exact zan0 (rfl) (by unfold a_count; rw [if_neg (by omega), if_neg (by omega), if_neg (by omega), if_neg (by omega), if_neg (by omega), if_neg (by omega), if_neg (by omega), if_neg (by omega), if_neg (by omega), if_neg (by omega)]) (zex0 _)
      · refine Y_iload_1 i_X9_count_28 ?_
        refine X_bipush i_X9_count_29 (by decide +kernel) ?_
        refine X_icmp_gt i_X9_count_31 (tgt := 44) rfl ⟨by omega, by omega⟩ ⟨by omega, by omega⟩ (fun h31 => ?_) (fun h31 => ?_)
        · refine Y_iload_1 i_X9_count_44 ?_
          rcases (by omega : w = 0 ∨ w = 1 ∨ w = 2 ∨ w = 3 ∨ w = 4 ∨ w = 9 ∨ w = 10 ∨ w = 17 ∨ (w < 0 ∨ 17 < w)) with hsw | hsw | hsw | hsw | hsw | hsw | hsw | hsw | hsw
          · refine X_tabIn i_X9_count_45 ⟨by omega, by omega⟩ (by omega) (by omega) (off := 87) (by rw [hsw]; rfl) (tgt := 132) rfl ?_
            refine Y_aload_0 i_X9_count_132 ?_
            refine X_getR i_X9_count_133 f_X9_10 rfl ?_
            refine Y_getI i_X9_count_136 f_X9_249 rfl rfl ?_
            refine X_iret i_X9_count_139 rfl ?_
            exact zan0 (rfl) (by unfold a_count; rw [if_neg (by omega), if_neg (by omega), if_pos hsw]) (zex0 _)
          · refine X_tabIn i_X9_count_45 ⟨by omega, by omega⟩ (by omega) (by omega) (off := 95) (by rw [hsw]; rfl) (tgt := 140) rfl ?_
            refine Y_aload_0 i_X9_count_140 ?_
            refine X_getR i_X9_count_141 f_X9_10 rfl ?_
            refine Y_getI i_X9_count_144 f_X9_296 rfl rfl ?_
            refine X_iret i_X9_count_147 rfl ?_
            exact zan0 (rfl) (by unfold a_count; rw [if_neg (by omega), if_neg (by omega), if_neg (by omega), if_pos hsw]) (zex0 _)
          · refine X_tabIn i_X9_count_45 ⟨by omega, by omega⟩ (by omega) (by omega) (off := 103) (by rw [hsw]; rfl) (tgt := 148) rfl ?_
            refine Y_aload_0 i_X9_count_148 ?_
            refine X_getR i_X9_count_149 f_X9_10 rfl ?_
            refine Y_getI i_X9_count_152 f_X9_140 rfl rfl ?_
            refine X_iret i_X9_count_155 rfl ?_
            exact zan0 (rfl) (by unfold a_count; rw [if_neg (by omega), if_neg (by omega), if_neg (by omega), if_neg (by omega), if_pos hsw]) (zex0 _)
          · refine X_tabIn i_X9_count_45 ⟨by omega, by omega⟩ (by omega) (by omega) (off := 111) (by rw [hsw]; rfl) (tgt := 156) rfl ?_
            refine Y_aload_0 i_X9_count_156 ?_
            refine X_getR i_X9_count_157 f_X9_10 rfl ?_
            refine Y_getI i_X9_count_160 f_X9_144 rfl rfl ?_
            refine X_iret i_X9_count_163 rfl ?_
            exact zan0 (rfl) (by unfold a_count; rw [if_neg (by omega), if_neg (by omega), if_neg (by omega), if_neg (by omega), if_neg (by omega), if_pos hsw]) (zex0 _)
          · refine X_tabIn i_X9_count_45 ⟨by omega, by omega⟩ (by omega) (by omega) (off := 119) (by rw [hsw]; rfl) (tgt := 164) rfl ?_
            refine Y_aload_0 i_X9_count_164 ?_
            refine X_getR i_X9_count_165 f_X9_10 rfl ?_
            refine Y_getI i_X9_count_168 f_X9_299 rfl rfl ?_
            refine X_iret i_X9_count_171 rfl ?_
            exact zan0 (rfl) (by unfold a_count; rw [if_neg (by omega), if_neg (by omega), if_neg (by omega), if_neg (by omega), if_neg (by omega), if_neg (by omega), if_pos hsw]) (zex0 _)
          · refine X_tabIn i_X9_count_45 ⟨by omega, by omega⟩ (by omega) (by omega) (off := 127) (by rw [hsw]; rfl) (tgt := 172) rfl ?_
            refine Y_aload_0 i_X9_count_172 ?_
            refine X_getR i_X9_count_173 f_X9_27 rfl ?_
            refine Y_getI i_X9_count_176 f_X9_292 rfl rfl ?_
            refine X_iret i_X9_count_179 rfl ?_
            exact zan0 (rfl) (by unfold a_count; rw [if_neg (by omega), if_neg (by omega), if_neg (by omega), if_neg (by omega), if_neg (by omega), if_neg (by omega), if_neg (by omega), if_pos hsw]) (zex0 _)
          · refine X_tabIn i_X9_count_45 ⟨by omega, by omega⟩ (by omega) (by omega) (off := 135) (by rw [hsw]; rfl) (tgt := 180) rfl ?_
            refine Y_aload_0 i_X9_count_180 ?_
            refine X_getR i_X9_count_181 f_X9_31 rfl ?_
            refine Y_getI i_X9_count_184 f_X9_292 rfl rfl ?_
            refine X_iret i_X9_count_187 rfl ?_
            exact zan0 (rfl) (by unfold a_count; rw [if_neg (by omega), if_neg (by omega), if_neg (by omega), if_neg (by omega), if_neg (by omega), if_neg (by omega), if_neg (by omega), if_neg (by omega), if_pos hsw]) (zex0 _)
          · refine X_tabIn i_X9_count_45 ⟨by omega, by omega⟩ (by omega) (by omega) (off := 143) (by rw [hsw]; rfl) (tgt := 188) rfl ?_
            refine Y_aload_0 i_X9_count_188 ?_
            refine X_getR i_X9_count_189 f_X9_37 rfl ?_
            refine Y_getI i_X9_count_192 f_X9_153 rfl rfl ?_
            refine X_iret i_X9_count_195 rfl ?_
            exact zan0 (rfl) (by unfold a_count; rw [if_neg (by omega), if_neg (by omega), if_neg (by omega), if_neg (by omega), if_neg (by omega), if_neg (by omega), if_neg (by omega), if_neg (by omega), if_neg (by omega), if_pos hsw]) (zex0 _)
          · refine X_tabOut i_X9_count_45 ⟨by omega, by omega⟩ (by omega) (tgt := 196) rfl ?_
            refine X_bipush i_X9_count_196 (by decide +kernel) ?_
            refine X_iret i_X9_count_198 rfl ?_
            exact zan0 (rfl) (by unfold a_count; rw [if_neg (by omega), if_neg (by omega), if_neg (by omega), if_neg (by omega), if_neg (by omega), if_neg (by omega), if_neg (by omega), if_neg (by omega), if_neg (by omega), if_neg (by omega)]) (zex0 _)
        · refine Y_aload_0 i_X9_count_34 ?_
          refine X_getR i_X9_count_35 f_X9_64 rfl ?_
          refine Y_iload_1 i_X9_count_38 ?_
          refine X_bipush i_X9_count_39 (by decide +kernel) ?_
          refine X_isub i_X9_count_41 ?_
          refine Y_iald i_X9_count_42 rfl ⟨by omega, by omega⟩ rfl rfl ?_
          refine X_iret i_X9_count_43 rfl ?_
          exact zan0 (rfl) (by unfold a_count; rw [if_neg (by omega), if_pos (by omega)]) (zex0 _)
    · refine Y_aload_0 i_X9_count_11 ?_
      refine X_getR i_X9_count_12 f_X9_10 rfl ?_
      refine Y_iload_1 i_X9_count_15 ?_
      refine X_iconst i_X9_count_16 ?_
      refine X_isub i_X9_count_17 ?_
      refine Y_callV (k' := kX0_howMany) i_X9_count_18 l_X9_128 m_X0_howMany (c_X0_howMany (i := 0) (M := M) (A := M 0) (by omega) rfl hA ⟨by omega, by omega⟩) rfl rfl rfl rfl rfl ?_
      refine X_iret i_X9_count_21 rfl ?_
      exact zan0 (rfl) (by unfold a_count; rw [if_pos (by omega)]) (zex0 _)
