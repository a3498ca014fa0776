set_option maxRecDepth 100000 in
theorem c_X10_isIn {M : zMem} {v a c : Int} (hv : zR v) (ha : zR a) (hc : zR c) : zCt kX10_isIn 0 [.int (zii v), .int (zii a), .int (zii c)] M (zRet (.int (zii (if a ≤ v ∧ v ≤ c then 1 else 0))) M) := by
  have hv1 := hv.1
  have hv2 := hv.2
  have ha1 := ha.1
  have ha2 := ha.2
  have hc1 := hc.1
  have hc2 := hc.2
  refine zMet (by decide) (Nat.le_of_ble_eq_true rfl) ?_
  show zX kX10_isIn 0 0 [some (.int (zii v)), some (.int (zii a)), some (.int (zii c))] [] _ _
  refine Y_iload_0 i_X10_isIn_0 ?_
  refine Y_iload_1 i_X10_isIn_1 ?_
  refine X_icmp_lt i_X10_isIn_2 (tgt := 14) rfl ⟨by omega, by omega⟩ ⟨by omega, by omega⟩ (fun h2 => ?_) (fun h2 => ?_)
  · refine X_iconst i_X10_isIn_14 ?_
    refine X_zret i_X10_isIn_15 rfl (by omega) ?_
    exact zri (by split <;> omega)
  · refine Y_iload_0 i_X10_isIn_5 ?_
    refine Y_iload_2 i_X10_isIn_6 ?_
    refine X_icmp_gt i_X10_isIn_7 (tgt := 14) rfl ⟨by omega, by omega⟩ ⟨by omega, by omega⟩ (fun h7 => ?_) (fun h7 => ?_)
    · refine X_iconst i_X10_isIn_14 ?_
      refine X_zret i_X10_isIn_15 rfl (by omega) ?_
      exact zri (by split <;> omega)
    · refine X_iconst i_X10_isIn_10 ?_
      refine X_goto i_X10_isIn_11 (tgt := 15) rfl ?_
      refine X_zret i_X10_isIn_15 rfl (by omega) ?_
      exact zri (by split <;> omega)
set_option maxRecDepth 100000 in
theorem c_X10_bound {M : zMem} {v a c : Int} (hv : zR v) (ha : zR a) (hc : zR c) : zCt kX10_bound 0 [.int (zii v), .int (zii a), .int (zii c)] M (zRet (.int (zii (if v < a then -4 else if c < v then -6 else 0))) M) := by
  have hv1 := hv.1
  have hv2 := hv.2
  have ha1 := ha.1
  have ha2 := ha.2
  have hc1 := hc.1
  have hc2 := hc.2
  refine zMet (by decide) (Nat.le_of_ble_eq_true rfl) ?_
  show zX kX10_bound 0 0 [some (.int (zii v)), some (.int (zii a)), some (.int (zii c))] [] _ _
  refine Y_iload_0 i_X10_bound_0 ?_
  refine Y_iload_1 i_X10_bound_1 ?_
  refine X_icmp_ge i_X10_bound_2 (tgt := 10) rfl ⟨by omega, by omega⟩ ⟨by omega, by omega⟩ (fun h2 => ?_) (fun h2 => ?_)
  · refine Y_iload_0 i_X10_bound_10 ?_
    refine Y_iload_2 i_X10_bound_11 ?_
    refine X_icmp_le i_X10_bound_12 (tgt := 20) rfl ⟨by omega, by omega⟩ ⟨by omega, by omega⟩ (fun h12 => ?_) (fun h12 => ?_)
    · refine X_iconst i_X10_bound_20 ?_
      refine X_iret i_X10_bound_21 rfl ?_
      exact zri (by repeat (first | omega | split))
    · refine X_bipush i_X10_bound_15 (by decide +kernel) ?_
      refine X_goto i_X10_bound_17 (tgt := 21) rfl ?_
      refine X_iret i_X10_bound_21 rfl ?_
      exact zri (by repeat (first | omega | split))
  · refine X_bipush i_X10_bound_5 (by decide +kernel) ?_
    refine X_goto i_X10_bound_7 (tgt := 21) rfl ?_
    refine X_iret i_X10_bound_21 rfl ?_
    exact zri (by repeat (first | omega | split))
set_option maxRecDepth 100000 in
theorem c_X10_has {M : zMem} {v k : Int} : zCt kX10_has 0 [.int (zii v), .int (zii k)] M (zRet (.int (zii (if sBit v k = 1 then 1 else 0))) M) := by
  have hbr := sBit_in v k
  have hbb : zand (zshr v k) 1 = sBit v k := rfl
  refine zMet (by decide) (Nat.le_of_ble_eq_true rfl) ?_
  show zX kX10_has 0 0 [some (.int (zii v)), some (.int (zii k))] [] _ _
  refine Y_iload_0 i_X10_has_0 ?_
  refine Y_iload_1 i_X10_has_1 ?_
  refine X_ishr i_X10_has_2 ?_
  refine X_iconst i_X10_has_3 ?_
  refine X_iand i_X10_has_4 ?_
  refine X_iconst i_X10_has_5 ?_
  refine Y_icmp_ne i_X10_has_6 (tgt := 13) rfl ⟨by omega, by omega⟩ ⟨by omega, by omega⟩ (fun h6 => ?_) (fun h6 => ?_)
  · refine X_iconst i_X10_has_13 ?_
    refine X_zret i_X10_has_14 rfl (by omega) ?_
    exact zri (by rw [if_neg (by omega)])
  · refine X_iconst i_X10_has_9 ?_
    refine X_goto i_X10_has_10 (tgt := 14) rfl ?_
    refine X_zret i_X10_has_14 rfl (by omega) ?_
    exact zri (by rw [if_pos (by omega)])
theorem sBts_in (v : Int) : ∀ n : Nat, 0 ≤ sBts v n ∧ sBts v n ≤ n := by
  intro n
  induction n with
  | zero => simp [sBts]
  | succ n ih => have := sBit_in v n; simp only [sBts]; omega
set_option maxRecDepth 100000 in
theorem c_X10_bits {M : zMem} {v : Int} : zCt kX10_bits 0 [.int (zii v)] M (zRet (.int (zii (sBts v 31))) M) := by
  refine zMet (by decide) (Nat.le_of_ble_eq_true rfl) ?_
  show zX kX10_bits 0 0 [some (.int (zii v)), none, none] [] _ _
  have loop : ∀ (n : Nat) (g : Nat), g + n = 31 → zX kX10_bits 0 4 [some (.int (zii v)), some (.int (zii (sBts v g))), some (.int (zii g))] [] M (zRet (.int (zii (sBts v 31))) M) := by
    intro n
    induction n with
    | zero =>
      intro g  hg 
      obtain rfl : g = 31 := by omega
      refine Y_iload_2 i_X10_bits_4 ?_
      refine X_bipush i_X10_bits_5 (by decide +kernel) ?_
      refine X_icmp_ge i_X10_bits_7 (tgt := 24) rfl ⟨by omega, by omega⟩ ⟨by omega, by omega⟩ (fun h7 => ?_) (fun h7 => by exfalso; omega)
      refine Y_iload_1 i_X10_bits_24 ?_
      refine X_iret i_X10_bits_25 rfl ?_
      exact zri rfl
    | succ n ih =>
      intro g  hg 
      have hbb : zand (zshr v g) 1 = sBit v g := rfl
      have hb9 := sBts_in v g
      have hbr := sBit_in v g
      refine Y_iload_2 i_X10_bits_4 ?_
      refine X_bipush i_X10_bits_5 (by decide +kernel) ?_
      refine X_icmp_ge i_X10_bits_7 (tgt := 24) rfl ⟨by omega, by omega⟩ ⟨by omega, by omega⟩ (fun h7 => by exfalso; omega) (fun h7 => ?_)
      refine Y_iload_1 i_X10_bits_10 ?_
      refine Y_iload_0 i_X10_bits_11 ?_
      refine Y_iload_2 i_X10_bits_12 ?_
      refine X_ishr i_X10_bits_13 ?_
      refine X_iconst i_X10_bits_14 ?_
      refine X_iand i_X10_bits_15 ?_
      refine X_iadd i_X10_bits_16 ?_
      refine Y_istore_1 i_X10_bits_17 rfl rfl ?_
      refine Y_iinc_2 i_X10_bits_18 rfl rfl ?_
      refine X_goto i_X10_bits_21 (tgt := 4) rfl ?_
      exact X_eq (ih (g + 1) (by omega)) (by simp [sBts, hbb]) rfl rfl
  refine X_iconst i_X10_bits_0 ?_
  refine Y_istore_1 i_X10_bits_1 rfl rfl ?_
  refine X_iconst i_X10_bits_2 ?_
  refine Y_istore_2 i_X10_bits_3 rfl rfl ?_
  exact loop 31 0 (by omega)
set_option maxRecDepth 100000 in
theorem c_X10_isGuest {M : zMem} {A : zAft} (e : M 3 = A) {b : Int} (hA : zOk b A) {g : Int} (hg : zR g) : zCt kX10_isGuest 0 [.ref 38, .int (zii g)] M (zRet (.int (zii (if 0 ≤ g ∧ g < A 6 0 then 1 else 0))) M) := by
  subst e
  have h6 := hA.1
  unfold zH at h6
  have hG := sG_le hA.1
  have hg1 := hg.1
  have hg2 := hg.2
  refine zMet (by decide) (Nat.le_of_ble_eq_true rfl) ?_
  show zX kX10_isGuest 0 0 [some (.ref 38), some (.int (zii g))] [] _ _
  refine Y_iload_1 i_X10_isGuest_0 ?_
  refine X_if_lt i_X10_isGuest_1 (tgt := 16) rfl ⟨by omega, by omega⟩ (fun h1 => ?_) (fun h1 => ?_)
  · refine X_iconst i_X10_isGuest_16 ?_
    refine X_zret i_X10_isGuest_17 rfl (by omega) ?_
    exact zri (by split <;> omega)
  · refine Y_iload_1 i_X10_isGuest_4 ?_
    refine Y_aload_0 i_X10_isGuest_5 ?_
    refine Y_getI i_X10_isGuest_6 f_X10_65 rfl rfl ?_
    refine X_icmp_ge i_X10_isGuest_9 (tgt := 16) rfl ⟨by omega, by omega⟩ ⟨by omega, by omega⟩ (fun h9 => ?_) (fun h9 => ?_)
    · refine X_iconst i_X10_isGuest_16 ?_
      refine X_zret i_X10_isGuest_17 rfl (by omega) ?_
      exact zri (by split <;> omega)
    · refine X_iconst i_X10_isGuest_12 ?_
      refine X_goto i_X10_isGuest_13 (tgt := 17) rfl ?_
      refine X_zret i_X10_isGuest_17 rfl (by omega) ?_
      exact zri (by split <;> omega)
set_option maxRecDepth 100000 in
theorem c_X10_limitOf {M : zMem} {A : zAft} (e : M 3 = A) {g k f : Int} (g0 : 0 ≤ g) (g1 : g < 6) (ek : A 0 g = k) (ef : A 1 g = f) (hk : 0 ≤ k ∧ k ≤ 5) (hf : 0 ≤ f ∧ f ≤ 9) : zCt kX10_limitOf 0 [.ref 38, .int (zii g)] M (zRet (.int (zii (sLim k f))) M) := by
  subst e
  subst ek
  subst ef
  have hd : zdiv (4 + M 3 1 g) 2 = (4 + M 3 1 g) / 2 := zdiv_pos ⟨by omega, by omega⟩ (by omega) ⟨by omega, by omega⟩ (by omega)
  refine zMet (by decide) (Nat.le_of_ble_eq_true rfl) ?_
  show zX kX10_limitOf 0 0 [some (.ref 38), some (.int (zii g)), none] [] _ _
  refine X_iconst i_X10_limitOf_0 ?_
  refine Y_aload_0 i_X10_limitOf_1 ?_
  refine X_getR i_X10_limitOf_2 f_X10_16 rfl ?_
  refine Y_iload_1 i_X10_limitOf_5 ?_
  refine Y_iald i_X10_limitOf_6 rfl ⟨by omega, by omega⟩ rfl rfl ?_
  refine X_iadd i_X10_limitOf_7 ?_
  refine Y_istore_2 i_X10_limitOf_8 rfl rfl ?_
  refine Y_aload_0 i_X10_limitOf_9 ?_
  refine X_getR i_X10_limitOf_10 f_X10_13 rfl ?_
  refine Y_iload_1 i_X10_limitOf_13 ?_
  refine Y_iald i_X10_limitOf_14 rfl ⟨by omega, by omega⟩ rfl rfl ?_
  rcases (by omega : M 3 0 g = 0 ∨ M 3 0 g = 1 ∨ M 3 0 g = 2 ∨ M 3 0 g = 3 ∨ M 3 0 g = 4 ∨ M 3 0 g = 5) with hsw | hsw | hsw | hsw | hsw | hsw
  · refine X_tabOut i_X10_limitOf_15 ⟨by omega, by omega⟩ (by omega) (tgt := 68) rfl ?_
    refine Y_iload_2 i_X10_limitOf_68 ?_
    refine X_iret i_X10_limitOf_69 rfl ?_
    exact zri (by simp [sLim, hsw, hd])
  · refine X_tabIn i_X10_limitOf_15 ⟨by omega, by omega⟩ (by omega) (by omega) (off := 33) (by rw [hsw]; rfl) (tgt := 48) rfl ?_
    refine Y_iload_2 i_X10_limitOf_48 ?_
    refine X_iconst i_X10_limitOf_49 ?_
    refine X_idiv i_X10_limitOf_50 ⟨by omega, by omega⟩ (by omega) ?_
    refine X_iret i_X10_limitOf_51 rfl ?_
    exact zri (by simp [sLim, hsw, hd])
  · refine X_tabIn i_X10_limitOf_15 ⟨by omega, by omega⟩ (by omega) (by omega) (off := 37) (by rw [hsw]; rfl) (tgt := 52) rfl ?_
    refine Y_iload_2 i_X10_limitOf_52 ?_
    refine X_bipush i_X10_limitOf_53 (by decide +kernel) ?_
    refine X_iadd i_X10_limitOf_55 ?_
    refine X_iret i_X10_limitOf_56 rfl ?_
    exact zri (by simp [sLim, hsw, hd])
  · refine X_tabIn i_X10_limitOf_15 ⟨by omega, by omega⟩ (by omega) (by omega) (off := 42) (by rw [hsw]; rfl) (tgt := 57) rfl ?_
    refine Y_iload_2 i_X10_limitOf_57 ?_
    refine X_iconst i_X10_limitOf_58 ?_
    refine X_idiv i_X10_limitOf_59 ⟨by omega, by omega⟩ (by omega) ?_
    refine X_iconst i_X10_limitOf_60 ?_
    refine X_iadd i_X10_limitOf_61 ?_
    refine X_iret i_X10_limitOf_62 rfl ?_
    exact zri (by simp [sLim, hsw, hd])
  · refine X_tabIn i_X10_limitOf_15 ⟨by omega, by omega⟩ (by omega) (by omega) (off := 48) (by rw [hsw]; rfl) (tgt := 63) rfl ?_
    refine X_iconst i_X10_limitOf_63 ?_
    refine X_iret i_X10_limitOf_64 rfl ?_
    exact zri (by simp [sLim, hsw, hd])
  · refine X_tabIn i_X10_limitOf_15 ⟨by omega, by omega⟩ (by omega) (by omega) (off := 50) (by rw [hsw]; rfl) (tgt := 65) rfl ?_
    refine X_bipush i_X10_limitOf_65 (by decide +kernel) ?_
    refine X_iret i_X10_limitOf_67 rfl ?_
    exact zri (by simp [sLim, hsw, hd])
set_option maxRecDepth 100000 in
theorem c_X10_patienceOf {M : zMem} {A : zAft} (e : M 3 = A) {g k f : Int} (g0 : 0 ≤ g) (g1 : g < 6) (ek : A 0 g = k) (ef : A 1 g = f) (hk : 0 ≤ k ∧ k ≤ 5) (hf : 0 ≤ f ∧ f ≤ 9) : zCt kX10_patienceOf 0 [.ref 38, .int (zii g)] M (zRet (.int (zii (sPat k f))) M) := by
  subst e
  subst ek
  subst ef
  refine zMet (by decide) (Nat.le_of_ble_eq_true rfl) ?_
  show zX kX10_patienceOf 0 0 [some (.ref 38), some (.int (zii g))] [] _ _
  refine Y_aload_0 i_X10_patienceOf_0 ?_
  refine X_getR i_X10_patienceOf_1 f_X10_13 rfl ?_
  refine Y_iload_1 i_X10_patienceOf_4 ?_
  refine Y_iald i_X10_patienceOf_5 rfl ⟨by omega, by omega⟩ rfl rfl ?_
  rcases (by omega : M 3 0 g = 0 ∨ M 3 0 g = 1 ∨ M 3 0 g = 2 ∨ M 3 0 g = 3 ∨ M 3 0 g = 4 ∨ M 3 0 g = 5) with hsw | hsw | hsw | hsw | hsw | hsw
  · refine X_tabOut i_X10_patienceOf_6 ⟨by omega, by omega⟩ (by omega) (tgt := 54) rfl ?_
    refine X_iconst i_X10_patienceOf_54 ?_
    refine X_iret i_X10_patienceOf_55 rfl ?_
    exact zri (by simp [sPat, hsw])
  · refine X_tabIn i_X10_patienceOf_6 ⟨by omega, by omega⟩ (by omega) (by omega) (off := 34) (by rw [hsw]; rfl) (tgt := 40) rfl ?_
    refine X_iconst i_X10_patienceOf_40 ?_
    refine Y_aload_0 i_X10_patienceOf_41 ?_
    refine X_getR i_X10_patienceOf_42 f_X10_16 rfl ?_
    refine Y_iload_1 i_X10_patienceOf_45 ?_
    refine Y_iald i_X10_patienceOf_46 rfl ⟨by omega, by omega⟩ rfl rfl ?_
    refine X_iadd i_X10_patienceOf_47 ?_
    refine X_iret i_X10_patienceOf_48 rfl ?_
    exact zri (by simp [sPat, hsw])
  · refine X_tabIn i_X10_patienceOf_6 ⟨by omega, by omega⟩ (by omega) (by omega) (off := 43) (by rw [hsw]; rfl) (tgt := 49) rfl ?_
    refine X_bipush i_X10_patienceOf_49 (by decide +kernel) ?_
    refine X_iret i_X10_patienceOf_51 rfl ?_
    exact zri (by simp [sPat, hsw])
  · refine X_tabIn i_X10_patienceOf_6 ⟨by omega, by omega⟩ (by omega) (by omega) (off := 34) (by rw [hsw]; rfl) (tgt := 40) rfl ?_
    refine X_iconst i_X10_patienceOf_40 ?_
    refine Y_aload_0 i_X10_patienceOf_41 ?_
    refine X_getR i_X10_patienceOf_42 f_X10_16 rfl ?_
    refine Y_iload_1 i_X10_patienceOf_45 ?_
    refine Y_iald i_X10_patienceOf_46 rfl ⟨by omega, by omega⟩ rfl rfl ?_
    refine X_iadd i_X10_patienceOf_47 ?_
    refine X_iret i_X10_patienceOf_48 rfl ?_
    exact zri (by simp [sPat, hsw])
  · refine X_tabIn i_X10_patienceOf_6 ⟨by omega, by omega⟩ (by omega) (by omega) (off := 46) (by rw [hsw]; rfl) (tgt := 52) rfl ?_
    refine X_iconst i_X10_patienceOf_52 ?_
    refine X_iret i_X10_patienceOf_53 rfl ?_
    exact zri (by simp [sPat, hsw])
  · refine X_tabIn i_X10_patienceOf_6 ⟨by omega, by omega⟩ (by omega) (by omega) (off := 43) (by rw [hsw]; rfl) (tgt := 49) rfl ?_
    refine X_bipush i_X10_patienceOf_49 (by decide +kernel) ?_
    refine X_iret i_X10_patienceOf_51 rfl ?_
    exact zri (by simp [sPat, hsw])
set_option maxRecDepth 100000 in
theorem c_X10_sipOf {M : zMem} {A : zAft} (e : M 3 = A) {g k f : Int} (g0 : 0 ≤ g) (g1 : g < 6) (ek : A 0 g = k) (ef : A 1 g = f) (hk : 0 ≤ k ∧ k ≤ 5) (hf : 0 ≤ f ∧ f ≤ 9) : zCt kX10_sipOf 0 [.ref 38, .int (zii g)] M (zRet (.int (zii (sSip k))) M) := by
  subst e
  subst ek
  subst ef
  refine zMet (by decide) (Nat.le_of_ble_eq_true rfl) ?_
  show zX kX10_sipOf 0 0 [some (.ref 38), some (.int (zii g))] [] _ _
  refine Y_aload_0 i_X10_sipOf_0 ?_
  refine X_getR i_X10_sipOf_1 f_X10_13 rfl ?_
  refine Y_iload_1 i_X10_sipOf_4 ?_
  refine Y_iald i_X10_sipOf_5 rfl ⟨by omega, by omega⟩ rfl rfl ?_
  refine X_iconst i_X10_sipOf_6 ?_
  refine Y_icmp_ne i_X10_sipOf_7 (tgt := 14) rfl ⟨by omega, by omega⟩ ⟨by omega, by omega⟩ (fun h7 => ?_) (fun h7 => ?_)
  · refine Y_aload_0 i_X10_sipOf_14 ?_
    refine X_getR i_X10_sipOf_15 f_X10_13 rfl ?_
    refine Y_iload_1 i_X10_sipOf_18 ?_
    refine Y_iald i_X10_sipOf_19 rfl ⟨by omega, by omega⟩ rfl rfl ?_
    refine X_iconst i_X10_sipOf_20 ?_
    refine Y_icmp_ne i_X10_sipOf_21 (tgt := 28) rfl ⟨by omega, by omega⟩ ⟨by omega, by omega⟩ (fun h21 => ?_) (fun h21 => ?_)
    · refine X_iconst i_X10_sipOf_28 ?_
      refine X_iret i_X10_sipOf_29 rfl ?_
      exact zri (by unfold sSip; repeat (first | omega | split))
    · refine X_iconst i_X10_sipOf_24 ?_
      refine X_goto i_X10_sipOf_25 (tgt := 29) rfl ?_
      refine X_iret i_X10_sipOf_29 rfl ?_
      exact zri (by unfold sSip; repeat (first | omega | split))
  · refine X_iconst i_X10_sipOf_10 ?_
    refine X_goto i_X10_sipOf_11 (tgt := 29) rfl ?_
    refine X_iret i_X10_sipOf_29 rfl ?_
    exact zri (by unfold sSip; repeat (first | omega | split))
set_option maxRecDepth 100000 in
theorem c_X10_enoughOf {M : zMem} {A : zAft} (e : M 3 = A) {g k f : Int} (g0 : 0 ≤ g) (g1 : g < 6) (ek : A 0 g = k) (ef : A 1 g = f) (hk : 0 ≤ k ∧ k ≤ 5) (hf : 0 ≤ f ∧ f ≤ 9) : zCt kX10_enoughOf 0 [.ref 38, .int (zii g)] M (zRet (.int (zii (sEno k f))) M) := by
  subst e
  subst ek
  subst ef
  have hd : zdiv (M 3 1 g) 3 = M 3 1 g / 3 := zdiv_pos ⟨by omega, by omega⟩ (by omega) ⟨by omega, by omega⟩ (by omega)
  refine zMet (by decide) (Nat.le_of_ble_eq_true rfl) ?_
  show zX kX10_enoughOf 0 0 [some (.ref 38), some (.int (zii g))] [] _ _
  refine Y_aload_0 i_X10_enoughOf_0 ?_
  refine X_getR i_X10_enoughOf_1 f_X10_13 rfl ?_
  refine Y_iload_1 i_X10_enoughOf_4 ?_
  refine Y_iald i_X10_enoughOf_5 rfl ⟨by omega, by omega⟩ rfl rfl ?_
  refine X_iconst i_X10_enoughOf_6 ?_
  refine Y_icmp_ne i_X10_enoughOf_7 (tgt := 23) rfl ⟨by omega, by omega⟩ ⟨by omega, by omega⟩ (fun h7 => ?_) (fun h7 => ?_)
  · refine Y_aload_0 i_X10_enoughOf_23 ?_
    refine X_getR i_X10_enoughOf_24 f_X10_13 rfl ?_
    refine Y_iload_1 i_X10_enoughOf_27 ?_
    refine Y_iald i_X10_enoughOf_28 rfl ⟨by omega, by omega⟩ rfl rfl ?_
    refine X_iconst i_X10_enoughOf_29 ?_
    refine Y_icmp_ne i_X10_enoughOf_30 (tgt := 46) rfl ⟨by omega, by omega⟩ ⟨by omega, by omega⟩ (fun h30 => ?_) (fun h30 => ?_)
    · refine X_iconst i_X10_enoughOf_46 ?_
      refine X_iret i_X10_enoughOf_47 rfl ?_
      exact zri (by unfold sEno; repeat (first | omega | split))
    · refine X_iconst i_X10_enoughOf_33 ?_
      refine Y_aload_0 i_X10_enoughOf_34 ?_
      refine X_getR i_X10_enoughOf_35 f_X10_16 rfl ?_
      refine Y_iload_1 i_X10_enoughOf_38 ?_
      refine Y_iald i_X10_enoughOf_39 rfl ⟨by omega, by omega⟩ rfl rfl ?_
      refine X_iconst i_X10_enoughOf_40 ?_
      refine X_idiv i_X10_enoughOf_41 ⟨by omega, by omega⟩ (by omega) ?_
      rw [hd]
      refine X_iadd i_X10_enoughOf_42 ?_
      refine X_goto i_X10_enoughOf_43 (tgt := 47) rfl ?_
      refine X_iret i_X10_enoughOf_47 rfl ?_
      exact zri (by unfold sEno; repeat (first | omega | split))
  · refine X_iconst i_X10_enoughOf_10 ?_
    refine Y_aload_0 i_X10_enoughOf_11 ?_
    refine X_getR i_X10_enoughOf_12 f_X10_16 rfl ?_
    refine Y_iload_1 i_X10_enoughOf_15 ?_
    refine Y_iald i_X10_enoughOf_16 rfl ⟨by omega, by omega⟩ rfl rfl ?_
    refine X_iconst i_X10_enoughOf_17 ?_
    refine X_idiv i_X10_enoughOf_18 ⟨by omega, by omega⟩ (by omega) ?_
    rw [hd]
    refine X_iadd i_X10_enoughOf_19 ?_
    refine X_goto i_X10_enoughOf_20 (tgt := 47) rfl ?_
    refine X_iret i_X10_enoughOf_47 rfl ?_
    exact zri (by unfold sEno; repeat (first | omega | split))
set_option maxRecDepth 100000 in
theorem c_X10_manyIn {M : zMem} {A : zAft} (e : M 3 = A) {b : Int} (hA : zOk b A) {s : Int} (hs : zR s) : zCt kX10_manyIn 0 [.ref 38, .int (zii s)] M (zRet (.int (zii (sMany A s))) M) := by
  subst e
  have h6 := hA.1
  unfold zH at h6
  have hG := sG_le hA.1
  have hs1 := hs.1
  have hs2 := hs.2
  refine zMet (by decide) (Nat.le_of_ble_eq_true rfl) ?_
  show zX kX10_manyIn 0 0 [some (.ref 38), some (.int (zii s)), none, none] [] _ _
  have loop : ∀ (n : Nat) (g : Nat), g + n = sG (M 3) → zX kX10_manyIn 0 4 [some (.ref 38), some (.int (zii s)), some (.int (zii (sCnt (M 3) s g))), some (.int (zii g))] [] M (zRet (.int (zii (sMany (M 3) s))) M) := by
    intro n
    induction n with
    | zero =>
      intro g  hg 
      obtain rfl : g = sG (M 3) := by omega
      refine Y_iload_3 i_X10_manyIn_4 ?_
      refine Y_aload_0 i_X10_manyIn_5 ?_
      refine Y_getI i_X10_manyIn_6 f_X10_65 rfl rfl ?_
      refine X_icmp_ge i_X10_manyIn_9 (tgt := 36) rfl ⟨by omega, by omega⟩ ⟨by omega, by omega⟩ (fun h9 => ?_) (fun h9 => by exfalso; omega)
      refine Y_iload_2 i_X10_manyIn_36 ?_
      refine X_iret i_X10_manyIn_37 rfl ?_
      exact zri rfl
    | succ n ih =>
      intro g  hg 
      have hgg := hA.2 g (by omega) (by omega)
      unfold zG at hgg
      have hc := sCnt_in (M 3) s g
      refine Y_iload_3 i_X10_manyIn_4 ?_
      refine Y_aload_0 i_X10_manyIn_5 ?_
      refine Y_getI i_X10_manyIn_6 f_X10_65 rfl rfl ?_
      refine X_icmp_ge i_X10_manyIn_9 (tgt := 36) rfl ⟨by omega, by omega⟩ ⟨by omega, by omega⟩ (fun h9 => by exfalso; omega) (fun h9 => ?_)
      refine Y_iload_2 i_X10_manyIn_12 ?_
      refine Y_aload_0 i_X10_manyIn_13 ?_
      refine X_getR i_X10_manyIn_14 f_X10_22 rfl ?_
      refine Y_iload_3 i_X10_manyIn_17 ?_
      refine Y_iald i_X10_manyIn_18 rfl ⟨by omega, by omega⟩ rfl rfl ?_
      refine Y_iload_1 i_X10_manyIn_19 ?_
      refine Y_icmp_ne i_X10_manyIn_20 (tgt := 27) rfl ⟨by omega, by omega⟩ ⟨by omega, by omega⟩ (fun h20 => ?_) (fun h20 => ?_)
      · refine X_iconst i_X10_manyIn_27 ?_
        refine X_iadd i_X10_manyIn_28 ?_
        refine Y_istore_2 i_X10_manyIn_29 rfl rfl ?_
        refine Y_iinc_3 i_X10_manyIn_30 rfl rfl ?_
        refine X_goto i_X10_manyIn_33 (tgt := 4) rfl ?_
        exact X_eq (ih (g + 1) (by omega)) (by simp [sCnt, h20]) rfl rfl
      · refine X_iconst i_X10_manyIn_23 ?_
        refine X_goto i_X10_manyIn_24 (tgt := 28) rfl ?_
        refine X_iadd i_X10_manyIn_28 ?_
        refine Y_istore_2 i_X10_manyIn_29 rfl rfl ?_
        refine Y_iinc_3 i_X10_manyIn_30 rfl rfl ?_
        refine X_goto i_X10_manyIn_33 (tgt := 4) rfl ?_
        exact X_eq (ih (g + 1) (by omega)) (by simp [sCnt, h20]) rfl rfl
  refine X_iconst i_X10_manyIn_0 ?_
  refine Y_istore_2 i_X10_manyIn_1 rfl rfl ?_
  refine X_iconst i_X10_manyIn_2 ?_
  refine Y_istore_3 i_X10_manyIn_3 rfl rfl ?_
  exact loop (sG (M 3)) 0 (by omega)
set_option maxRecDepth 100000 in
theorem c_X10_allThirst {M : zMem} {A : zAft} (e : M 3 = A) {b : Int} (hA : zOk b A) : zCt kX10_allThirst 0 [.ref 38] M (zRet (.int (zii (sTh A (sG A)))) M) := by
  subst e
  have h6 := hA.1
  unfold zH at h6
  have hG := sG_le hA.1
  refine zMet (by decide) (Nat.le_of_ble_eq_true rfl) ?_
  show zX kX10_allThirst 0 0 [some (.ref 38), none, none] [] _ _
  have loop : ∀ (n : Nat) (g : Nat), g + n = sG (M 3) → zX kX10_allThirst 0 4 [some (.ref 38), some (.int (zii (sTh (M 3) g))), some (.int (zii g))] [] M (zRet (.int (zii (sTh (M 3) (sG (M 3))))) M) := by
    intro n
    induction n with
    | zero =>
      intro g  hg 
      obtain rfl : g = sG (M 3) := by omega
      refine Y_iload_2 i_X10_allThirst_4 ?_
      refine Y_aload_0 i_X10_allThirst_5 ?_
      refine Y_getI i_X10_allThirst_6 f_X10_65 rfl rfl ?_
      refine X_icmp_ge i_X10_allThirst_9 (tgt := 41) rfl ⟨by omega, by omega⟩ ⟨by omega, by omega⟩ (fun h9 => ?_) (fun h9 => by exfalso; omega)
      refine Y_iload_1 i_X10_allThirst_41 ?_
      refine X_iret i_X10_allThirst_42 rfl ?_
      exact zri rfl
    | succ n ih =>
      intro g  hg 
      have hgg := hA.2 g (by omega) (by omega)
      unfold zG at hgg
      have hc := sTh_in hA.2 g (by omega)
      refine Y_iload_2 i_X10_allThirst_4 ?_
      refine Y_aload_0 i_X10_allThirst_5 ?_
      refine Y_getI i_X10_allThirst_6 f_X10_65 rfl rfl ?_
      refine X_icmp_ge i_X10_allThirst_9 (tgt := 41) rfl ⟨by omega, by omega⟩ ⟨by omega, by omega⟩ (fun h9 => by exfalso; omega) (fun h9 => ?_)
      refine Y_iload_1 i_X10_allThirst_12 ?_
      refine Y_aload_0 i_X10_allThirst_13 ?_
      refine X_getR i_X10_allThirst_14 f_X10_22 rfl ?_
      refine Y_iload_2 i_X10_allThirst_17 ?_
      refine Y_iald i_X10_allThirst_18 rfl ⟨by omega, by omega⟩ rfl rfl ?_
      refine X_iconst i_X10_allThirst_19 ?_
      refine Y_icmp_ne i_X10_allThirst_20 (tgt := 27) rfl ⟨by omega, by omega⟩ ⟨by omega, by omega⟩ (fun h20 => ?_) (fun h20 => ?_)
      · refine Y_aload_0 i_X10_allThirst_27 ?_
        refine X_getR i_X10_allThirst_28 f_X10_19 rfl ?_
        refine Y_iload_2 i_X10_allThirst_31 ?_
        refine Y_iald i_X10_allThirst_32 rfl ⟨by omega, by omega⟩ rfl rfl ?_
        refine X_iadd i_X10_allThirst_33 ?_
        refine Y_istore_1 i_X10_allThirst_34 rfl rfl ?_
        refine Y_iinc_2 i_X10_allThirst_35 rfl rfl ?_
        refine X_goto i_X10_allThirst_38 (tgt := 4) rfl ?_
        exact X_eq (ih (g + 1) (by omega)) (by simp [sTh, h20]) rfl rfl
      · refine X_iconst i_X10_allThirst_23 ?_
        refine X_goto i_X10_allThirst_24 (tgt := 33) rfl ?_
        refine X_iadd i_X10_allThirst_33 ?_
        refine Y_istore_1 i_X10_allThirst_34 rfl rfl ?_
        refine Y_iinc_2 i_X10_allThirst_35 rfl rfl ?_
        refine X_goto i_X10_allThirst_38 (tgt := 4) rfl ?_
        exact X_eq (ih (g + 1) (by omega)) (by simp [sTh, h20]) rfl rfl
  refine X_iconst i_X10_allThirst_0 ?_
  refine Y_istore_1 i_X10_allThirst_1 rfl rfl ?_
  refine X_iconst i_X10_allThirst_2 ?_
  refine Y_istore_2 i_X10_allThirst_3 rfl rfl ?_
  exact loop (sG (M 3)) 0 (by omega)
theorem zii_zor (a b : Int) : zii (zor a b) = zii a ||| zii b := by unfold zor zii; rw [Int32.ofInt_toInt]
theorem zor_0 (a : Int) : zii (zor a 0) = zii a := by
  rw [zii_zor, show zii 0 = 0 from rfl]
  apply Int32.toBitVec_inj.1
  show (zii a).toBitVec ||| 0#32 = (zii a).toBitVec
  simp
set_option maxRecDepth 100000 in
theorem c_X10_whoSit {M : zMem} {A : zAft} (e : M 3 = A) {b : Int} (hA : zOk b A) : zCt kX10_whoSit 0 [.ref 38] M (zRet (.int (zii (sSet A 0 (sG A)))) M) := by
  subst e
  have h6 := hA.1
  unfold zH at h6
  have hG := sG_le hA.1
  refine zMet (by decide) (Nat.le_of_ble_eq_true rfl) ?_
  show zX kX10_whoSit 0 0 [some (.ref 38), none, none] [] _ _
  have loop : ∀ (n : Nat) (g : Nat), g + n = sG (M 3) → zX kX10_whoSit 0 4 [some (.ref 38), some (.int (zii (sSet (M 3) 0 g))), some (.int (zii g))] [] M (zRet (.int (zii (sSet (M 3) 0 (sG (M 3))))) M) := by
    intro n
    induction n with
    | zero =>
      intro g  hg 
      obtain rfl : g = sG (M 3) := by omega
      refine Y_iload_2 i_X10_whoSit_4 ?_
      refine Y_aload_0 i_X10_whoSit_5 ?_
      refine Y_getI i_X10_whoSit_6 f_X10_65 rfl rfl ?_
      refine X_icmp_ge i_X10_whoSit_9 (tgt := 37) rfl ⟨by omega, by omega⟩ ⟨by omega, by omega⟩ (fun h9 => ?_) (fun h9 => by exfalso; omega)
      refine Y_iload_1 i_X10_whoSit_37 ?_
      refine X_iret i_X10_whoSit_38 rfl ?_
      exact zri rfl
    | succ n ih =>
      intro g  hg 
      have hgg := hA.2 g (by omega) (by omega)
      unfold zG at hgg
      refine Y_iload_2 i_X10_whoSit_4 ?_
      refine Y_aload_0 i_X10_whoSit_5 ?_
      refine Y_getI i_X10_whoSit_6 f_X10_65 rfl rfl ?_
      refine X_icmp_ge i_X10_whoSit_9 (tgt := 37) rfl ⟨by omega, by omega⟩ ⟨by omega, by omega⟩ (fun h9 => by exfalso; omega) (fun h9 => ?_)
      refine Y_iload_1 i_X10_whoSit_12 ?_
      refine Y_aload_0 i_X10_whoSit_13 ?_
      refine X_getR i_X10_whoSit_14 f_X10_22 rfl ?_
      refine Y_iload_2 i_X10_whoSit_17 ?_
      refine Y_iald i_X10_whoSit_18 rfl ⟨by omega, by omega⟩ rfl rfl ?_
      refine Y_if_ne i_X10_whoSit_19 (tgt := 28) rfl ⟨by omega, by omega⟩ (fun h19 => ?_) (fun h19 => ?_)
      · refine X_iconst i_X10_whoSit_28 ?_
        refine X_ior i_X10_whoSit_29 ?_
        refine Y_istore_1 i_X10_whoSit_30 rfl rfl ?_
        refine Y_iinc_2 i_X10_whoSit_31 rfl rfl ?_
        refine X_goto i_X10_whoSit_34 (tgt := 4) rfl ?_
        exact X_eq (ih (g + 1) (by omega)) (by simp [sSet, h19, zor_0]) rfl rfl
      · refine X_iconst i_X10_whoSit_22 ?_
        refine Y_iload_2 i_X10_whoSit_23 ?_
        refine X_ishl i_X10_whoSit_24 ?_
        refine X_goto i_X10_whoSit_25 (tgt := 29) rfl ?_
        refine X_ior i_X10_whoSit_29 ?_
        refine Y_istore_1 i_X10_whoSit_30 rfl rfl ?_
        refine Y_iinc_2 i_X10_whoSit_31 rfl rfl ?_
        refine X_goto i_X10_whoSit_34 (tgt := 4) rfl ?_
        exact X_eq (ih (g + 1) (by omega)) (by simp [sSet, h19]) rfl rfl
  refine X_iconst i_X10_whoSit_0 ?_
  refine Y_istore_1 i_X10_whoSit_1 rfl rfl ?_
  refine X_iconst i_X10_whoSit_2 ?_
  refine Y_istore_2 i_X10_whoSit_3 rfl rfl ?_
  exact loop (sG (M 3)) 0 (by omega)
set_option maxRecDepth 100000 in
theorem c_X10_whoAre {M : zMem} {A : zAft} (e : M 3 = A) {b : Int} (hA : zOk b A) {s : Int} (hs : zR s) : zCt kX10_whoAre 0 [.ref 38, .int (zii s)] M (zRet (.int (zii (sSet A s (sG A)))) M) := by
  subst e
  have h6 := hA.1
  unfold zH at h6
  have hG := sG_le hA.1
  have hs1 := hs.1
  have hs2 := hs.2
  refine zMet (by decide) (Nat.le_of_ble_eq_true rfl) ?_
  show zX kX10_whoAre 0 0 [some (.ref 38), some (.int (zii s)), none, none] [] _ _
  have loop : ∀ (n : Nat) (g : Nat), g + n = sG (M 3) → zX kX10_whoAre 0 4 [some (.ref 38), some (.int (zii s)), some (.int (zii (sSet (M 3) s g))), some (.int (zii g))] [] M (zRet (.int (zii (sSet (M 3) s (sG (M 3))))) M) := by
    intro n
    induction n with
    | zero =>
      intro g  hg 
      obtain rfl : g = sG (M 3) := by omega
      refine Y_iload_3 i_X10_whoAre_4 ?_
      refine Y_aload_0 i_X10_whoAre_5 ?_
      refine Y_getI i_X10_whoAre_6 f_X10_65 rfl rfl ?_
      refine X_icmp_ge i_X10_whoAre_9 (tgt := 38) rfl ⟨by omega, by omega⟩ ⟨by omega, by omega⟩ (fun h9 => ?_) (fun h9 => by exfalso; omega)
      refine Y_iload_2 i_X10_whoAre_38 ?_
      refine X_iret i_X10_whoAre_39 rfl ?_
      exact zri rfl
    | succ n ih =>
      intro g  hg 
      have hgg := hA.2 g (by omega) (by omega)
      unfold zG at hgg
      refine Y_iload_3 i_X10_whoAre_4 ?_
      refine Y_aload_0 i_X10_whoAre_5 ?_
      refine Y_getI i_X10_whoAre_6 f_X10_65 rfl rfl ?_
      refine X_icmp_ge i_X10_whoAre_9 (tgt := 38) rfl ⟨by omega, by omega⟩ ⟨by omega, by omega⟩ (fun h9 => by exfalso; omega) (fun h9 => ?_)
      refine Y_iload_2 i_X10_whoAre_12 ?_
      refine Y_aload_0 i_X10_whoAre_13 ?_
      refine X_getR i_X10_whoAre_14 f_X10_22 rfl ?_
      refine Y_iload_3 i_X10_whoAre_17 ?_
      refine Y_iald i_X10_whoAre_18 rfl ⟨by omega, by omega⟩ rfl rfl ?_
      refine Y_iload_1 i_X10_whoAre_19 ?_
      refine Y_icmp_ne i_X10_whoAre_20 (tgt := 29) rfl ⟨by omega, by omega⟩ ⟨by omega, by omega⟩ (fun h20 => ?_) (fun h20 => ?_)
      · refine X_iconst i_X10_whoAre_29 ?_
        refine X_ior i_X10_whoAre_30 ?_
        refine Y_istore_2 i_X10_whoAre_31 rfl rfl ?_
        refine Y_iinc_3 i_X10_whoAre_32 rfl rfl ?_
        refine X_goto i_X10_whoAre_35 (tgt := 4) rfl ?_
        exact X_eq (ih (g + 1) (by omega)) (by simp [sSet, h20, zor_0]) rfl rfl
      · refine X_iconst i_X10_whoAre_23 ?_
        refine Y_iload_3 i_X10_whoAre_24 ?_
        refine X_ishl i_X10_whoAre_25 ?_
        refine X_goto i_X10_whoAre_26 (tgt := 30) rfl ?_
        refine X_ior i_X10_whoAre_30 ?_
        refine Y_istore_2 i_X10_whoAre_31 rfl rfl ?_
        refine Y_iinc_3 i_X10_whoAre_32 rfl rfl ?_
        refine X_goto i_X10_whoAre_35 (tgt := 4) rfl ?_
        exact X_eq (ih (g + 1) (by omega)) (by simp [sSet, h20]) rfl rfl
  refine X_iconst i_X10_whoAre_0 ?_
  refine Y_istore_2 i_X10_whoAre_1 rfl rfl ?_
  refine X_iconst i_X10_whoAre_2 ?_
  refine Y_istore_3 i_X10_whoAre_3 rfl rfl ?_
  exact loop (sG (M 3)) 0 (by omega)
set_option maxRecDepth 100000 in
theorem c_X10_everybody {M : zMem} {A : zAft} (e : M 3 = A) {b : Int} (hA : zOk b A) : zCt kX10_everybody 0 [.ref 38] M (zRet (.int (zii (zshl 1 (A 6 0) - 1))) M) := by
  subst e
  have h6 := hA.1
  unfold zH at h6
  have hG := sG_le hA.1
  refine zMet (by decide) (Nat.le_of_ble_eq_true rfl) ?_
  show zX kX10_everybody 0 0 [some (.ref 38)] [] _ _
  refine X_iconst i_X10_everybody_0 ?_
  refine Y_aload_0 i_X10_everybody_1 ?_
  refine Y_getI i_X10_everybody_2 f_X10_65 rfl rfl ?_
  refine X_ishl i_X10_everybody_5 ?_
  refine X_iconst i_X10_everybody_6 ?_
  refine X_isub i_X10_everybody_7 ?_
  refine X_iret i_X10_everybody_8 rfl ?_
  exact zri rfl
set_option maxRecDepth 100000 in
theorem c_X10_orNone {M : zMem} {v : Int} (hv : 0 ≤ v ∧ v ≤ 100) : zCt kX10_orNone 0 [.int (zii v)] M (zRet (.int (zii (sN v))) M) := by
  refine zMet (by decide) (Nat.le_of_ble_eq_true rfl) ?_
  show zX kX10_orNone 0 0 [some (.int (zii v))] [] _ _
  refine Y_iload_0 i_X10_orNone_0 ?_
  refine X_bipush i_X10_orNone_1 (by decide +kernel) ?_
  refine Y_icmp_ne i_X10_orNone_3 (tgt := 11) rfl ⟨by omega, by omega⟩ ⟨by omega, by omega⟩ (fun h3 => ?_) (fun h3 => ?_)
  · refine Y_iload_0 i_X10_orNone_11 ?_
    refine X_iret i_X10_orNone_12 rfl ?_
    exact zri (by unfold sN; repeat (first | omega | split))
  · refine X_bipush i_X10_orNone_6 (by decide +kernel) ?_
    refine X_goto i_X10_orNone_8 (tgt := 12) rfl ?_
    refine X_iret i_X10_orNone_12 rfl ?_
    exact zri (by unfold sN; repeat (first | omega | split))
set_option maxRecDepth 100000 in
theorem c_X10_notMinutes {M : zMem} {v : Int} (hv : zR v) : zCt kX10_notMinutes 1 [.int (zii v)] M (zRet (.int (zii (sFa v))) M) := by
  refine zMet (by decide) (Nat.le_of_ble_eq_true rfl) ?_
  show zX kX10_notMinutes 1 0 [some (.int (zii v))] [] _ _
  refine Y_iload_0 i_X10_notMinutes_0 ?_
  refine X_iconst i_X10_notMinutes_1 ?_
  refine X_bipush i_X10_notMinutes_2 (by decide +kernel) ?_
  refine Y_callS (k' := kX10_bound) i_X10_notMinutes_4 l_X10_68 m_X10_bound (c_X10_bound hv (zR_lit rfl) (zR_lit rfl)) rfl rfl rfl rfl ?_
  refine X_iret i_X10_notMinutes_7 rfl ?_
  exact zri rfl
set_option maxRecDepth 100000 in
theorem c_X10_divisor {M : zMem} {x y : Nat} (hx : x < 1152921504606846976) (hy : y < 1125899906842624) : zCt kX10_divisor 0 [.long (zll x), .long (zll y)] M (zRet (.long (zll (Nat.gcd x y : Nat))) M) := by
  refine zMet (by decide) (Nat.le_of_ble_eq_true rfl) ?_
  show zX kX10_divisor 0 0 [some (.long (zll x)), none, some (.long (zll y)), none, none, none, none, none, none, none] [] _ _
  have loop : ∀ (n : Nat) (i : Nat) (p q : Nat) (lx ly : Option Value), i + n = 100 → p < 1152921504606846976 → q < 1152921504606846976 → sE n p q → Nat.gcd p q = Nat.gcd x y → zX kX10_divisor 0 6 [some (.long (zll x)), none, some (.long (zll y)), none, some (.long (zll p)), none, some (.long (zll q)), none, lx, ly] [] M (zRet (.long (zll (Nat.gcd x y : Nat))) M) := by
    intro n
    induction n with
    | zero =>
      intro i p q lx ly hg hp hq hE hgc
      have hq0 : q = 0 := hE
      have hz := zcmp_in (a := (q : Int)) (b := 0) ⟨by omega, by omega⟩ ⟨by omega, by omega⟩
      refine Y_lload_6 i_X10_divisor_6 ?_
      refine X_lconst i_X10_divisor_8 (x := 0) rfl ?_
      refine X_lcmp i_X10_divisor_9 ?_
      refine X_if_eq i_X10_divisor_10 (tgt := 31) rfl ⟨by omega, by omega⟩ (fun h10 => ?_) (fun h10 => by exfalso; omega)
      refine Y_lload_4 i_X10_divisor_31 ?_
      refine X_lret i_X10_divisor_33 rfl ?_
      exact zrl (by rw [← hgc, hq0, Nat.gcd_zero_right])
    | succ n ih =>
      intro i p q lx ly hg hp hq hE hgc
      have hz := zcmp_in (a := (q : Int)) (b := 0) ⟨by omega, by omega⟩ ⟨by omega, by omega⟩
      refine Y_lload_6 i_X10_divisor_6 ?_
      refine X_lconst i_X10_divisor_8 (x := 0) rfl ?_
      refine X_lcmp i_X10_divisor_9 ?_
      refine X_if_eq i_X10_divisor_10 (tgt := 31) rfl ⟨by omega, by omega⟩ (fun h10 => ?_) (fun h10 => ?_)
      · refine Y_lload_4 i_X10_divisor_31 ?_
        refine X_lret i_X10_divisor_33 rfl ?_
        exact zrl (by rw [← hgc, show q = 0 by omega, Nat.gcd_zero_right])
      · refine Y_lload_4 i_X10_divisor_13 ?_
        refine Y_lload_6 i_X10_divisor_15 ?_
        refine X_lrem i_X10_divisor_17 ⟨by omega, by omega⟩ (by omega) ?_
        rw [zlrem_pos (a := p) (b := q) ⟨by omega, by omega⟩ (by omega) ⟨by omega, by omega⟩]
        refine Y_lstore_8 i_X10_divisor_18 rfl rfl ?_
        refine Y_lload_6 i_X10_divisor_20 ?_
        refine Y_lstore_4 i_X10_divisor_22 rfl rfl ?_
        refine Y_lload_8 i_X10_divisor_24 ?_
        refine Y_lstore_6 i_X10_divisor_26 rfl rfl ?_
        refine X_goto i_X10_divisor_28 (tgt := 6) rfl ?_
        exact ih (i + 1) q (p % q) _ _ (by omega) (by omega) (Nat.lt_of_le_of_lt (Nat.mod_le p q) hp) (by rcases hE with z | z
                                                                                                          · omega
                                                                                                          · exact z) (by rw [← hgc, Nat.gcd_comm p q, Nat.gcd_rec q p]; exact Nat.gcd_comm _ _)
  refine Y_lload_0 i_X10_divisor_0 ?_
  refine Y_lstore_4 i_X10_divisor_1 rfl rfl ?_
  refine Y_lload_2 i_X10_divisor_3 ?_
  refine Y_lstore_6 i_X10_divisor_4 rfl rfl ?_
  exact loop 100 0 x y _ _ (by omega) (by omega) (by omega) (sE_mono _ _ _ _ (by omega) (sE_two 50 x y (by omega))) rfl
/-- all of a set are gone -/
def sSa (A : zAft) (s : Int) : Nat → Bool
  | 0 => true
  | n + 1 => sSa A s n && (!decide (sBit s n = 1) || decide (A 3 n = 3))
theorem sSa_le {A : zAft} {s : Int} : ∀ {m n : Nat}, n ≤ m → sSa A s m = true → sSa A s n = true := by
  intro m
  induction m with
  | zero => intro n h h2; rw [show n = 0 by omega]; rfl
  | succ m ih =>
    intro n h h2
    by_cases e : n = m + 1
    · subst e; exact h2
    · simp only [sSa, Bool.and_eq_true] at h2
      exact ih (by omega) h2.1
set_option maxRecDepth 100000 in
theorem c_X10_areGone {M : zMem} {A : zAft} (e : M 3 = A) {b : Int} (hA : zOk b A) {s : Int} : zCt kX10_areGone 1 [.ref 38, .int (zii s)] M (zRet (.int (zii (if sSa A s (sG A) = true then 1 else 0))) M) := by
  subst e
  have h6 := hA.1
  unfold zH at h6
  have hG := sG_le hA.1
  refine zMet (by decide) (Nat.le_of_ble_eq_true rfl) ?_
  show zX kX10_areGone 1 0 [some (.ref 38), some (.int (zii s)), none] [] _ _
  have loop : ∀ (n : Nat) (g : Nat), g + n = sG (M 3) → sSa (M 3) s g = true → zX kX10_areGone 1 2 [some (.ref 38), some (.int (zii s)), some (.int (zii g))] [] M (zRet (.int (zii (if sSa (M 3) s (sG (M 3)) = true then 1 else 0))) M) := by
    intro n
    induction n with
    | zero =>
      intro g  hg ha
      obtain rfl : g = sG (M 3) := by omega
      refine Y_iload_2 i_X10_areGone_2 ?_
      refine Y_aload_0 i_X10_areGone_3 ?_
      refine Y_getI i_X10_areGone_4 f_X10_65 rfl rfl ?_
      refine X_icmp_ge i_X10_areGone_7 (tgt := 36) rfl ⟨by omega, by omega⟩ ⟨by omega, by omega⟩ (fun h7 => ?_) (fun h7 => by exfalso; omega)
      refine X_iconst i_X10_areGone_36 ?_
      refine X_zret i_X10_areGone_37 rfl (by omega) ?_
      exact zri (by rw [ha]; rfl)
    | succ n ih =>
      intro g  hg ha
      have hgg := hA.2 g (by omega) (by omega)
      unfold zG at hgg
      refine Y_iload_2 i_X10_areGone_2 ?_
      refine Y_aload_0 i_X10_areGone_3 ?_
      refine Y_getI i_X10_areGone_4 f_X10_65 rfl rfl ?_
      refine X_icmp_ge i_X10_areGone_7 (tgt := 36) rfl ⟨by omega, by omega⟩ ⟨by omega, by omega⟩ (fun h7 => by exfalso; omega) (fun h7 => ?_)
      refine Y_iload_1 i_X10_areGone_10 ?_
      refine Y_iload_2 i_X10_areGone_11 ?_
      refine Y_callS (k' := kX10_has) i_X10_areGone_12 l_X10_216 m_X10_has c_X10_has rfl rfl rfl rfl ?_
      refine Y_ifq_eq i_X10_areGone_15 (tgt := 30) rfl  (fun h15 => ?_) (fun h15 => ?_)
      · refine Y_iinc_2 i_X10_areGone_30 rfl rfl ?_
        refine X_goto i_X10_areGone_33 (tgt := 2) rfl ?_
        exact X_eq (ih (g + 1) (by omega) (by simp [sSa, ha, h15])) (by simp) rfl rfl
      · refine Y_aload_0 i_X10_areGone_18 ?_
        refine X_getR i_X10_areGone_19 f_X10_22 rfl ?_
        refine Y_iload_2 i_X10_areGone_22 ?_
        refine Y_iald i_X10_areGone_23 rfl ⟨by omega, by omega⟩ rfl rfl ?_
        refine X_iconst i_X10_areGone_24 ?_
        refine X_icmp_eq i_X10_areGone_25 (tgt := 30) rfl ⟨by omega, by omega⟩ ⟨by omega, by omega⟩ (fun h25 => ?_) (fun h25 => ?_)
        · refine Y_iinc_2 i_X10_areGone_30 rfl rfl ?_
          refine X_goto i_X10_areGone_33 (tgt := 2) rfl ?_
          exact X_eq (ih (g + 1) (by omega) (by simp [sSa, ha, h25])) (by simp) rfl rfl
        · refine X_iconst i_X10_areGone_28 ?_
          refine X_zret i_X10_areGone_29 rfl (by omega) ?_
          exact zri (by rw [if_neg]; intro z; have z2 := sSa_le (n := g + 1) (by omega) z; simp [sSa, ha, h15, h25] at z2)
  refine X_iconst i_X10_areGone_0 ?_
  refine Y_istore_2 i_X10_areGone_1 rfl rfl ?_
  exact loop (sG (M 3)) 0 (by omega) rfl
set_option maxRecDepth 100000 in
theorem c_X10_standsUp {M : zMem} {A : zAft} {g : Int} (g0 : 0 ≤ g) (g1 : g < 6) : zCt kX10_standsUp 0 [.ref 38, .int (zii g)] ((zs M 3 A)) (zVoid (zs M 3 (sRise A g))) := by
  refine zMet (by decide) (Nat.le_of_ble_eq_true rfl) ?_
  show zX kX10_standsUp 0 0 [some (.ref 38), some (.int (zii g))] [] _ _
  refine Y_aload_0 i_X10_standsUp_0 ?_
  refine X_getR i_X10_standsUp_1 f_X10_22 rfl ?_
  refine Y_iload_1 i_X10_standsUp_4 ?_
  refine X_iconst i_X10_standsUp_5 ?_
  refine Y_iast i_X10_standsUp_6 rfl ⟨by omega, by omega⟩ rfl (zp0 _ _ _ _ _ _) ?_
  refine Y_aload_0 i_X10_standsUp_7 ?_
  refine X_getR i_X10_standsUp_8 f_X10_25 rfl ?_
  refine Y_iload_1 i_X10_standsUp_11 ?_
  refine X_iconst i_X10_standsUp_12 ?_
  refine Y_iast i_X10_standsUp_13 rfl ⟨by omega, by omega⟩ rfl (zp0 _ _ _ _ _ _) ?_
  refine X_vret i_X10_standsUp_14 rfl ?_
  exact zrv0 rfl
set_option maxRecDepth 100000 in
theorem c_X10_drinksOn {M : zMem} {A : zAft} {b : Int} (hA : zOk b A) {g : Int} (g0 : 0 ≤ g) (g1 : g < 6) (hs : A 3 g = 2) : zCt kX10_drinksOn 1 [.ref 38, .int (zii g)] ((zs M 3 A)) (zVoid (zs M 3 (sFor A g))) := by
  have hgg := hA.2 g g0 g1
  unfold zG at hgg
  have p1 := sSip_in (A 0 g)
  have p2 := sPat_in (k := A 0 g) hgg.2.1
  have p3 := sEno_in (k := A 0 g) hgg.2.1
  have p4 := sLim_in (k := A 0 g) hgg.2.1
  refine zMet (by decide) (Nat.le_of_ble_eq_true rfl) ?_
  show zX kX10_drinksOn 1 0 [some (.ref 38), some (.int (zii g)), none] [] _ _
  refine Y_aload_0 i_X10_drinksOn_0 ?_
  refine X_getR i_X10_drinksOn_1 f_X10_19 rfl ?_
  refine Y_iload_1 i_X10_drinksOn_4 ?_
  refine Y_iald i_X10_drinksOn_5 rfl ⟨by omega, by omega⟩ rfl (zg0 _ _ _ _ _) ?_
  refine Y_aload_0 i_X10_drinksOn_6 ?_
  refine Y_iload_1 i_X10_drinksOn_7 ?_
  refine Y_callV (k' := kX10_sipOf) i_X10_drinksOn_8 l_X10_167 m_X10_sipOf (c_X10_sipOf (zs_self _ _ _) g0 g1 rfl rfl hgg.1 hgg.2.1) rfl rfl rfl rfl rfl ?_
  refine X_isub i_X10_drinksOn_11 ?_
  refine Y_istore_2 i_X10_drinksOn_12 rfl rfl ?_
  refine Y_aload_0 i_X10_drinksOn_13 ?_
  refine X_getR i_X10_drinksOn_14 f_X10_19 rfl ?_
  refine Y_iload_1 i_X10_drinksOn_17 ?_
  refine Y_iload_2 i_X10_drinksOn_18 ?_
  refine X_if_ge i_X10_drinksOn_19 (tgt := 26) rfl ⟨by omega, by omega⟩ (fun h19 => ?_) (fun h19 => ?_)
  · have hT : sT2 (A 2 g - sSip (A 0 g)) = A 2 g - sSip (A 0 g) := by unfold sT2; rw [if_pos (by omega)]
    refine Y_iload_2 i_X10_drinksOn_26 ?_
    refine Y_iast i_X10_drinksOn_27 rfl ⟨by omega, by omega⟩ rfl (zp0 _ _ _ _ _ _) ?_
    refine Y_aload_0 i_X10_drinksOn_28 ?_
    refine X_getR i_X10_drinksOn_29 f_X10_19 rfl ?_
    refine Y_iload_1 i_X10_drinksOn_32 ?_
    refine Y_iald i_X10_drinksOn_33 rfl ⟨by omega, by omega⟩ rfl (zga zr0) ?_
    refine X_if_le i_X10_drinksOn_34 (tgt := 38) rfl ⟨by omega, by omega⟩ (fun h34 => ?_) (fun h34 => ?_)
    · refine Y_aload_0 i_X10_drinksOn_38 ?_
      refine X_getR i_X10_drinksOn_39 f_X10_28 rfl ?_
      refine Y_iload_1 i_X10_drinksOn_42 ?_
      refine X_dup2 i_X10_drinksOn_43 rfl rfl ?_
      refine Y_iald i_X10_drinksOn_44 rfl ⟨by omega, by omega⟩ rfl (zga (zr1 rfl rfl)) ?_
      refine Y_aload_0 i_X10_drinksOn_45 ?_
      refine X_getR i_X10_drinksOn_46 f_X10_28 rfl ?_
      refine Y_iload_1 i_X10_drinksOn_49 ?_
      refine Y_iald i_X10_drinksOn_50 rfl ⟨by omega, by omega⟩ rfl (zga (zr1 rfl rfl)) ?_
      refine X_bipush i_X10_drinksOn_51 (by decide +kernel) ?_
      refine X_icmp_ge i_X10_drinksOn_53 (tgt := 60) rfl ⟨by omega, by omega⟩ ⟨by omega, by omega⟩ (fun h53 => by exfalso; omega) (fun h53 => ?_)
      refine X_iconst i_X10_drinksOn_56 ?_
      refine X_goto i_X10_drinksOn_57 (tgt := 61) rfl ?_
      refine X_iadd i_X10_drinksOn_61 ?_
      refine Y_iast i_X10_drinksOn_62 rfl ⟨by omega, by omega⟩ rfl (zp0 _ _ _ _ _ _) ?_
      refine Y_aload_0 i_X10_drinksOn_63 ?_
      refine X_getR i_X10_drinksOn_64 f_X10_22 rfl ?_
      refine Y_iload_1 i_X10_drinksOn_67 ?_
      refine Y_aload_0 i_X10_drinksOn_68 ?_
      refine X_getR i_X10_drinksOn_69 f_X10_28 rfl ?_
      refine Y_iload_1 i_X10_drinksOn_72 ?_
      refine Y_iald i_X10_drinksOn_73 rfl ⟨by omega, by omega⟩ rfl (zga zr0) ?_
      refine Y_aload_0 i_X10_drinksOn_74 ?_
      refine Y_iload_1 i_X10_drinksOn_75 ?_
      refine Y_callV (k' := kX10_enoughOf) i_X10_drinksOn_76 l_X10_170 m_X10_enoughOf (c_X10_enoughOf (zs_self _ _ _) g0 g1 (zr1 rfl (zr1 rfl rfl)) (zr1 rfl (zr1 rfl rfl)) hgg.1 hgg.2.1) rfl rfl rfl rfl rfl ?_
      refine X_icmp_lt i_X10_drinksOn_79 (tgt := 86) rfl ⟨by omega, by omega⟩ ⟨by omega, by omega⟩ (fun h79 => ?_) (fun h79 => ?_)
      · refine X_iconst i_X10_drinksOn_86 ?_
        refine Y_iast i_X10_drinksOn_87 rfl ⟨by omega, by omega⟩ rfl (zp0 _ _ _ _ _ _) ?_
        refine X_vret i_X10_drinksOn_88 rfl ?_
        exact zrv0 (congrArg (zs M 3) (by unfold sFor; rw [if_neg (by omega), if_neg (by omega), if_pos hs, hT, if_neg (by omega), if_neg (by omega)]))
      · refine X_iconst i_X10_drinksOn_82 ?_
        refine X_goto i_X10_drinksOn_83 (tgt := 87) rfl ?_
        refine Y_iast i_X10_drinksOn_87 rfl ⟨by omega, by omega⟩ rfl (zp0 _ _ _ _ _ _) ?_
        refine X_vret i_X10_drinksOn_88 rfl ?_
        exact zrv0 (congrArg (zs M 3) (by unfold sFor; rw [if_neg (by omega), if_neg (by omega), if_pos hs, hT, if_neg (by omega), if_pos (by omega)]))
    · refine X_vret i_X10_drinksOn_37 rfl ?_
      exact zrv0 (congrArg (zs M 3) (by unfold sFor; rw [if_neg (by omega), if_neg (by omega), if_pos hs, hT, if_pos (by omega)]))
  · have hT : sT2 (A 2 g - sSip (A 0 g)) = 0 := by unfold sT2; rw [if_neg (by omega)]
    refine X_iconst i_X10_drinksOn_22 ?_
    refine X_goto i_X10_drinksOn_23 (tgt := 27) rfl ?_
    refine Y_iast i_X10_drinksOn_27 rfl ⟨by omega, by omega⟩ rfl (zp0 _ _ _ _ _ _) ?_
    refine Y_aload_0 i_X10_drinksOn_28 ?_
    refine X_getR i_X10_drinksOn_29 f_X10_19 rfl ?_
    refine Y_iload_1 i_X10_drinksOn_32 ?_
    refine Y_iald i_X10_drinksOn_33 rfl ⟨by omega, by omega⟩ rfl (zga zr0) ?_
    refine X_if_le i_X10_drinksOn_34 (tgt := 38) rfl ⟨by omega, by omega⟩ (fun h34 => ?_) (fun h34 => ?_)
    · refine Y_aload_0 i_X10_drinksOn_38 ?_
      refine X_getR i_X10_drinksOn_39 f_X10_28 rfl ?_
      refine Y_iload_1 i_X10_drinksOn_42 ?_
      refine X_dup2 i_X10_drinksOn_43 rfl rfl ?_
      refine Y_iald i_X10_drinksOn_44 rfl ⟨by omega, by omega⟩ rfl (zga (zr1 rfl rfl)) ?_
      refine Y_aload_0 i_X10_drinksOn_45 ?_
      refine X_getR i_X10_drinksOn_46 f_X10_28 rfl ?_
      refine Y_iload_1 i_X10_drinksOn_49 ?_
      refine Y_iald i_X10_drinksOn_50 rfl ⟨by omega, by omega⟩ rfl (zga (zr1 rfl rfl)) ?_
      refine X_bipush i_X10_drinksOn_51 (by decide +kernel) ?_
      refine X_icmp_ge i_X10_drinksOn_53 (tgt := 60) rfl ⟨by omega, by omega⟩ ⟨by omega, by omega⟩ (fun h53 => by exfalso; omega) (fun h53 => ?_)
      refine X_iconst i_X10_drinksOn_56 ?_
      refine X_goto i_X10_drinksOn_57 (tgt := 61) rfl ?_
      refine X_iadd i_X10_drinksOn_61 ?_
      refine Y_iast i_X10_drinksOn_62 rfl ⟨by omega, by omega⟩ rfl (zp0 _ _ _ _ _ _) ?_
      refine Y_aload_0 i_X10_drinksOn_63 ?_
      refine X_getR i_X10_drinksOn_64 f_X10_22 rfl ?_
      refine Y_iload_1 i_X10_drinksOn_67 ?_
      refine Y_aload_0 i_X10_drinksOn_68 ?_
      refine X_getR i_X10_drinksOn_69 f_X10_28 rfl ?_
      refine Y_iload_1 i_X10_drinksOn_72 ?_
      refine Y_iald i_X10_drinksOn_73 rfl ⟨by omega, by omega⟩ rfl (zga zr0) ?_
      refine Y_aload_0 i_X10_drinksOn_74 ?_
      refine Y_iload_1 i_X10_drinksOn_75 ?_
      refine Y_callV (k' := kX10_enoughOf) i_X10_drinksOn_76 l_X10_170 m_X10_enoughOf (c_X10_enoughOf (zs_self _ _ _) g0 g1 (zr1 rfl (zr1 rfl rfl)) (zr1 rfl (zr1 rfl rfl)) hgg.1 hgg.2.1) rfl rfl rfl rfl rfl ?_
      refine X_icmp_lt i_X10_drinksOn_79 (tgt := 86) rfl ⟨by omega, by omega⟩ ⟨by omega, by omega⟩ (fun h79 => ?_) (fun h79 => ?_)
      · refine X_iconst i_X10_drinksOn_86 ?_
        refine Y_iast i_X10_drinksOn_87 rfl ⟨by omega, by omega⟩ rfl (zp0 _ _ _ _ _ _) ?_
        refine X_vret i_X10_drinksOn_88 rfl ?_
        exact zrv0 (congrArg (zs M 3) (by unfold sFor; rw [if_neg (by omega), if_neg (by omega), if_pos hs, hT, if_neg (by omega), if_neg (by omega)]))
      · refine X_iconst i_X10_drinksOn_82 ?_
        refine X_goto i_X10_drinksOn_83 (tgt := 87) rfl ?_
        refine Y_iast i_X10_drinksOn_87 rfl ⟨by omega, by omega⟩ rfl (zp0 _ _ _ _ _ _) ?_
        refine X_vret i_X10_drinksOn_88 rfl ?_
        exact zrv0 (congrArg (zs M 3) (by unfold sFor; rw [if_neg (by omega), if_neg (by omega), if_pos hs, hT, if_neg (by omega), if_pos (by omega)]))
    · refine X_vret i_X10_drinksOn_37 rfl ?_
      exact zrv0 (congrArg (zs M 3) (by unfold sFor; rw [if_neg (by omega), if_neg (by omega), if_pos hs, hT, if_pos (by omega)]))
set_option maxRecDepth 100000 in
theorem c_X10_goesOne {M : zMem} {A : zAft} {b : Int} (hA : zOk b A) {g : Int} (g0 : 0 ≤ g) (g1 : g < 6) : zCt kX10_goesOne 2 [.ref 38, .int (zii g)] ((zs M 3 A)) (zVoid (zs M 3 (sFor A g))) := by
  have hgg := hA.2 g g0 g1
  unfold zG at hgg
  have p1 := sSip_in (A 0 g)
  have p2 := sPat_in (k := A 0 g) hgg.2.1
  have p3 := sEno_in (k := A 0 g) hgg.2.1
  have p4 := sLim_in (k := A 0 g) hgg.2.1
  refine zMet (by decide) (Nat.le_of_ble_eq_true rfl) ?_
  show zX kX10_goesOne 2 0 [some (.ref 38), some (.int (zii g))] [] _ _
  refine Y_aload_0 i_X10_goesOne_0 ?_
  refine X_getR i_X10_goesOne_1 f_X10_22 rfl ?_
  refine Y_iload_1 i_X10_goesOne_4 ?_
  refine Y_iald i_X10_goesOne_5 rfl ⟨by omega, by omega⟩ rfl (zg0 _ _ _ _ _) ?_
  rcases (by omega : A 3 g = 0 ∨ A 3 g = 1 ∨ A 3 g = 2 ∨ A 3 g = 3) with hsw | hsw | hsw | hsw
  · refine X_tabIn i_X10_goesOne_6 ⟨by omega, by omega⟩ (by omega) (by omega) (off := 26) (by rw [hsw]; rfl) (tgt := 32) rfl ?_
    refine Y_aload_0 i_X10_goesOne_32 ?_
    refine X_getR i_X10_goesOne_33 f_X10_19 rfl ?_
    refine Y_iload_1 i_X10_goesOne_36 ?_
    refine X_dup2 i_X10_goesOne_37 rfl rfl ?_
    refine Y_iald i_X10_goesOne_38 rfl ⟨by omega, by omega⟩ rfl (zg0 _ _ _ _ _) ?_
    refine Y_aload_0 i_X10_goesOne_39 ?_
    refine X_getR i_X10_goesOne_40 f_X10_19 rfl ?_
    refine Y_iload_1 i_X10_goesOne_43 ?_
    refine Y_iald i_X10_goesOne_44 rfl ⟨by omega, by omega⟩ rfl (zg0 _ _ _ _ _) ?_
    refine X_bipush i_X10_goesOne_45 (by decide +kernel) ?_
    refine X_icmp_ge i_X10_goesOne_47 (tgt := 54) rfl ⟨by omega, by omega⟩ ⟨by omega, by omega⟩ (fun h47 => ?_) (fun h47 => ?_)
    · have hT : sT1 (A 2 g) = A 2 g + 0 := by unfold sT1; rw [if_neg (by omega)]; omega
      refine X_iconst i_X10_goesOne_54 ?_
      refine X_iadd i_X10_goesOne_55 ?_
      refine Y_iast i_X10_goesOne_56 rfl ⟨by omega, by omega⟩ rfl (zp0 _ _ _ _ _ _) ?_
      refine Y_aload_0 i_X10_goesOne_57 ?_
      refine X_getR i_X10_goesOne_58 f_X10_19 rfl ?_
      refine Y_iload_1 i_X10_goesOne_61 ?_
      refine Y_iald i_X10_goesOne_62 rfl ⟨by omega, by omega⟩ rfl (zga zr0) ?_
      refine Y_aload_0 i_X10_goesOne_63 ?_
      refine Y_iload_1 i_X10_goesOne_64 ?_
      refine Y_callV (k' := kX10_limitOf) i_X10_goesOne_65 l_X10_173 m_X10_limitOf (c_X10_limitOf (zs_self _ _ _) g0 g1 (zr1 rfl rfl) (zr1 rfl rfl) hgg.1 hgg.2.1) rfl rfl rfl rfl rfl ?_
      refine X_icmp_lt i_X10_goesOne_68 (tgt := 136) rfl ⟨by omega, by omega⟩ ⟨by omega, by omega⟩ (fun h68 => ?_) (fun h68 => ?_)
      · refine X_vret i_X10_goesOne_136 rfl ?_
        exact zrv0 (congrArg (zs M 3) (by unfold sFor; rw [if_pos hsw, hT, if_neg (by omega)]))
      · refine Y_aload_0 i_X10_goesOne_71 ?_
        refine Y_iload_1 i_X10_goesOne_72 ?_
        refine Y_callVv (k' := kX10_standsUp) i_X10_goesOne_73 l_X10_115 m_X10_standsUp (c_X10_standsUp g0 g1) rfl rfl rfl rfl rfl ?_
        refine X_goto i_X10_goesOne_76 (tgt := 136) rfl ?_
        refine X_vret i_X10_goesOne_136 rfl ?_
        exact zrv0 (congrArg (zs M 3) (by unfold sFor; rw [if_pos hsw, hT, if_pos (by omega)]; rfl))
    · have hT : sT1 (A 2 g) = A 2 g + 1 := by unfold sT1; rw [if_pos (by omega)]
      refine X_iconst i_X10_goesOne_50 ?_
      refine X_goto i_X10_goesOne_51 (tgt := 55) rfl ?_
      refine X_iadd i_X10_goesOne_55 ?_
      refine Y_iast i_X10_goesOne_56 rfl ⟨by omega, by omega⟩ rfl (zp0 _ _ _ _ _ _) ?_
      refine Y_aload_0 i_X10_goesOne_57 ?_
      refine X_getR i_X10_goesOne_58 f_X10_19 rfl ?_
      refine Y_iload_1 i_X10_goesOne_61 ?_
      refine Y_iald i_X10_goesOne_62 rfl ⟨by omega, by omega⟩ rfl (zga zr0) ?_
      refine Y_aload_0 i_X10_goesOne_63 ?_
      refine Y_iload_1 i_X10_goesOne_64 ?_
      refine Y_callV (k' := kX10_limitOf) i_X10_goesOne_65 l_X10_173 m_X10_limitOf (c_X10_limitOf (zs_self _ _ _) g0 g1 (zr1 rfl rfl) (zr1 rfl rfl) hgg.1 hgg.2.1) rfl rfl rfl rfl rfl ?_
      refine X_icmp_lt i_X10_goesOne_68 (tgt := 136) rfl ⟨by omega, by omega⟩ ⟨by omega, by omega⟩ (fun h68 => ?_) (fun h68 => ?_)
      · refine X_vret i_X10_goesOne_136 rfl ?_
        exact zrv0 (congrArg (zs M 3) (by unfold sFor; rw [if_pos hsw, hT, if_neg (by omega)]))
      · refine Y_aload_0 i_X10_goesOne_71 ?_
        refine Y_iload_1 i_X10_goesOne_72 ?_
        refine Y_callVv (k' := kX10_standsUp) i_X10_goesOne_73 l_X10_115 m_X10_standsUp (c_X10_standsUp g0 g1) rfl rfl rfl rfl rfl ?_
        refine X_goto i_X10_goesOne_76 (tgt := 136) rfl ?_
        refine X_vret i_X10_goesOne_136 rfl ?_
        exact zrv0 (congrArg (zs M 3) (by unfold sFor; rw [if_pos hsw, hT, if_pos (by omega)]; rfl))
  · refine X_tabIn i_X10_goesOne_6 ⟨by omega, by omega⟩ (by omega) (by omega) (off := 73) (by rw [hsw]; rfl) (tgt := 79) rfl ?_
    refine Y_aload_0 i_X10_goesOne_79 ?_
    refine X_getR i_X10_goesOne_80 f_X10_25 rfl ?_
    refine Y_iload_1 i_X10_goesOne_83 ?_
    refine X_dup2 i_X10_goesOne_84 rfl rfl ?_
    refine Y_iald i_X10_goesOne_85 rfl ⟨by omega, by omega⟩ rfl (zg0 _ _ _ _ _) ?_
    refine Y_aload_0 i_X10_goesOne_86 ?_
    refine X_getR i_X10_goesOne_87 f_X10_25 rfl ?_
    refine Y_iload_1 i_X10_goesOne_90 ?_
    refine Y_iald i_X10_goesOne_91 rfl ⟨by omega, by omega⟩ rfl (zg0 _ _ _ _ _) ?_
    refine X_bipush i_X10_goesOne_92 (by decide +kernel) ?_
    refine X_icmp_ge i_X10_goesOne_94 (tgt := 101) rfl ⟨by omega, by omega⟩ ⟨by omega, by omega⟩ (fun h94 => by exfalso; omega) (fun h94 => ?_)
    refine X_iconst i_X10_goesOne_97 ?_
    refine X_goto i_X10_goesOne_98 (tgt := 102) rfl ?_
    refine X_iadd i_X10_goesOne_102 ?_
    refine Y_iast i_X10_goesOne_103 rfl ⟨by omega, by omega⟩ rfl (zp0 _ _ _ _ _ _) ?_
    refine Y_aload_0 i_X10_goesOne_104 ?_
    refine X_getR i_X10_goesOne_105 f_X10_25 rfl ?_
    refine Y_iload_1 i_X10_goesOne_108 ?_
    refine Y_iald i_X10_goesOne_109 rfl ⟨by omega, by omega⟩ rfl (zga zr0) ?_
    refine Y_aload_0 i_X10_goesOne_110 ?_
    refine Y_iload_1 i_X10_goesOne_111 ?_
    refine Y_callV (k' := kX10_patienceOf) i_X10_goesOne_112 l_X10_176 m_X10_patienceOf (c_X10_patienceOf (zs_self _ _ _) g0 g1 (zr1 rfl rfl) (zr1 rfl rfl) hgg.1 hgg.2.1) rfl rfl rfl rfl rfl ?_
    refine X_icmp_le i_X10_goesOne_115 (tgt := 136) rfl ⟨by omega, by omega⟩ ⟨by omega, by omega⟩ (fun h115 => ?_) (fun h115 => ?_)
    · refine X_vret i_X10_goesOne_136 rfl ?_
      exact zrv0 (congrArg (zs M 3) (by unfold sFor; rw [if_neg (by omega), if_pos hsw, if_neg (by omega)]))
    · refine Y_aload_0 i_X10_goesOne_118 ?_
      refine X_getR i_X10_goesOne_119 f_X10_22 rfl ?_
      refine Y_iload_1 i_X10_goesOne_122 ?_
      refine X_iconst i_X10_goesOne_123 ?_
      refine Y_iast i_X10_goesOne_124 rfl ⟨by omega, by omega⟩ rfl (zp0 _ _ _ _ _ _) ?_
      refine X_goto i_X10_goesOne_125 (tgt := 136) rfl ?_
      refine X_vret i_X10_goesOne_136 rfl ?_
      exact zrv0 (congrArg (zs M 3) (by unfold sFor; rw [if_neg (by omega), if_pos hsw, if_pos (by omega)]))
  · refine X_tabIn i_X10_goesOne_6 ⟨by omega, by omega⟩ (by omega) (by omega) (off := 122) (by rw [hsw]; rfl) (tgt := 128) rfl ?_
    refine Y_aload_0 i_X10_goesOne_128 ?_
    refine Y_iload_1 i_X10_goesOne_129 ?_
    refine Y_callVv (k' := kX10_drinksOn) i_X10_goesOne_130 l_X10_179 m_X10_drinksOn (c_X10_drinksOn hA g0 g1 hsw) rfl rfl rfl rfl rfl ?_
    refine X_goto i_X10_goesOne_133 (tgt := 136) rfl ?_
    refine X_vret i_X10_goesOne_136 rfl ?_
    exact zrv0 rfl
  · refine X_tabOut i_X10_goesOne_6 ⟨by omega, by omega⟩ (by omega) (tgt := 136) rfl ?_
    refine X_vret i_X10_goesOne_136 rfl ?_
    exact zrv0 (congrArg (zs M 3) (by unfold sFor; rw [if_neg (by omega), if_neg (by omega), if_neg (by omega)]))
set_option maxRecDepth 100000 in
theorem c_X10_isAhead {M : zMem} {A : zAft} (e : M 3 = A) {b : Int} (hA : zOk b A) {x y : Int} (x0 : 0 ≤ x) (x1 : x < 6) (y0 : 0 ≤ y) (y1 : y < 6) : zCt kX10_isAhead 0 [.ref 38, .int (zii x), .int (zii y)] M (zRet (.int (zii (if sAh A x y = true then 1 else 0))) M) := by
  subst e
  have h6 := hA.1
  unfold zH at h6
  have hG := sG_le hA.1
  have hg1 := hA.2 x x0 x1
  have hg2 := hA.2 y y0 y1
  unfold zG at hg1 hg2
  refine zMet (by decide) (Nat.le_of_ble_eq_true rfl) ?_
  show zX kX10_isAhead 0 0 [some (.ref 38), some (.int (zii x)), some (.int (zii y))] [] _ _
  refine Y_aload_0 i_X10_isAhead_0 ?_
  refine Y_getI i_X10_isAhead_1 f_X10_124 rfl rfl ?_
  rcases (by omega : M 3 6 2 = 0 ∨ M 3 6 2 = 1 ∨ M 3 6 2 = 2 ∨ M 3 6 2 = 3) with hsw | hsw | hsw | hsw
  · refine X_tabIn i_X10_isAhead_4 ⟨by omega, by omega⟩ (by omega) (by omega) (off := 28) (by rw [hsw]; rfl) (tgt := 32) rfl ?_
    refine Y_aload_0 i_X10_isAhead_32 ?_
    refine X_getR i_X10_isAhead_33 f_X10_25 rfl ?_
    refine Y_iload_1 i_X10_isAhead_36 ?_
    refine Y_iald i_X10_isAhead_37 rfl ⟨by omega, by omega⟩ rfl rfl ?_
    refine Y_aload_0 i_X10_isAhead_38 ?_
    refine X_getR i_X10_isAhead_39 f_X10_25 rfl ?_
    refine Y_iload_2 i_X10_isAhead_42 ?_
    refine Y_iald i_X10_isAhead_43 rfl ⟨by omega, by omega⟩ rfl rfl ?_
    refine X_icmp_le i_X10_isAhead_44 (tgt := 51) rfl ⟨by omega, by omega⟩ ⟨by omega, by omega⟩ (fun h44 => ?_) (fun h44 => ?_)
    · refine X_iconst i_X10_isAhead_51 ?_
      refine X_zret i_X10_isAhead_52 rfl (by omega) ?_
      exact zri (by simp [sAh, hsw]; omega)
    · refine X_iconst i_X10_isAhead_47 ?_
      refine X_goto i_X10_isAhead_48 (tgt := 52) rfl ?_
      refine X_zret i_X10_isAhead_52 rfl (by omega) ?_
      exact zri (by simp [sAh, hsw]; omega)
  · refine X_tabIn i_X10_isAhead_4 ⟨by omega, by omega⟩ (by omega) (by omega) (off := 49) (by rw [hsw]; rfl) (tgt := 53) rfl ?_
    refine Y_aload_0 i_X10_isAhead_53 ?_
    refine X_getR i_X10_isAhead_54 f_X10_19 rfl ?_
    refine Y_iload_1 i_X10_isAhead_57 ?_
    refine Y_iald i_X10_isAhead_58 rfl ⟨by omega, by omega⟩ rfl rfl ?_
    refine Y_aload_0 i_X10_isAhead_59 ?_
    refine X_getR i_X10_isAhead_60 f_X10_19 rfl ?_
    refine Y_iload_2 i_X10_isAhead_63 ?_
    refine Y_iald i_X10_isAhead_64 rfl ⟨by omega, by omega⟩ rfl rfl ?_
    refine X_icmp_le i_X10_isAhead_65 (tgt := 72) rfl ⟨by omega, by omega⟩ ⟨by omega, by omega⟩ (fun h65 => ?_) (fun h65 => ?_)
    · refine X_iconst i_X10_isAhead_72 ?_
      refine X_zret i_X10_isAhead_73 rfl (by omega) ?_
      exact zri (by simp [sAh, hsw]; omega)
    · refine X_iconst i_X10_isAhead_68 ?_
      refine X_goto i_X10_isAhead_69 (tgt := 73) rfl ?_
      refine X_zret i_X10_isAhead_73 rfl (by omega) ?_
      exact zri (by simp [sAh, hsw]; omega)
  · refine X_tabIn i_X10_isAhead_4 ⟨by omega, by omega⟩ (by omega) (by omega) (off := 70) (by rw [hsw]; rfl) (tgt := 74) rfl ?_
    refine X_iconst i_X10_isAhead_74 ?_
    refine X_zret i_X10_isAhead_75 rfl (by omega) ?_
    exact zri (by simp [sAh, hsw])
  · refine X_tabOut i_X10_isAhead_4 ⟨by omega, by omega⟩ (by omega) (tgt := 76) rfl ?_
    refine X_iconst i_X10_isAhead_76 ?_
    refine X_zret i_X10_isAhead_77 rfl (by omega) ?_
    exact zri (by simp [sAh, hsw])
def sNq (A : zAft) (n : Nat) : Int := if sNx A n < 0 then -9 else sNx A n
theorem sNq_in (A : zAft) (n : Nat) : (sNq A n = -9 ∧ sNx A n = -1) ∨ (sNq A n = sNx A n ∧ 0 ≤ sNx A n ∧ sNx A n < n ∧ A 3 (sNx A n) = 1) := by
  unfold sNq
  rcases sNx_in A n with h | h
  · rw [if_pos (by omega)]; exact Or.inl ⟨rfl, h.1⟩
  · rw [if_neg (by omega)]; exact Or.inr ⟨rfl, h⟩
theorem sNq_eq {A : zAft} {n : Nat} {v : Int} (h : sNx A n = v) (h0 : 0 ≤ v) : sNq A n = v := by unfold sNq; rw [h, if_neg (by omega)]
set_option maxRecDepth 100000 in
theorem c_X10_nextServed {M : zMem} {A : zAft} (e : M 3 = A) {b : Int} (hA : zOk b A) : zCt kX10_nextServed 1 [.ref 38] M (zRet (.int (zii (sNq A (sG A)))) M) := by
  subst e
  have h6 := hA.1
  unfold zH at h6
  have hG := sG_le hA.1
  refine zMet (by decide) (Nat.le_of_ble_eq_true rfl) ?_
  show zX kX10_nextServed 1 0 [some (.ref 38), none, none] [] _ _
  have loop : ∀ (n : Nat) (g : Nat), g + n = sG (M 3) → zX kX10_nextServed 1 5 [some (.ref 38), some (.int (zii (sNq (M 3) g))), some (.int (zii g))] [] M (zRet (.int (zii (sNq (M 3) (sG (M 3))))) M) := by
    intro n
    induction n with
    | zero =>
      intro g  hg 
      obtain rfl : g = sG (M 3) := by omega
      refine Y_iload_2 i_X10_nextServed_5 ?_
      refine Y_aload_0 i_X10_nextServed_6 ?_
      refine Y_getI i_X10_nextServed_7 f_X10_65 rfl rfl ?_
      refine X_icmp_ge i_X10_nextServed_10 (tgt := 44) rfl ⟨by omega, by omega⟩ ⟨by omega, by omega⟩ (fun h10 => ?_) (fun h10 => by exfalso; omega)
      refine Y_iload_1 i_X10_nextServed_44 ?_
      refine X_iret i_X10_nextServed_45 rfl ?_
      exact zri rfl
    | succ n ih =>
      intro g  hg 
      have hgg := hA.2 g (by omega) (by omega)
      unfold zG at hgg
      have hq := sNq_in (M 3) g
      refine Y_iload_2 i_X10_nextServed_5 ?_
      refine Y_aload_0 i_X10_nextServed_6 ?_
      refine Y_getI i_X10_nextServed_7 f_X10_65 rfl rfl ?_
      refine X_icmp_ge i_X10_nextServed_10 (tgt := 44) rfl ⟨by omega, by omega⟩ ⟨by omega, by omega⟩ (fun h10 => by exfalso; omega) (fun h10 => ?_)
      refine Y_aload_0 i_X10_nextServed_13 ?_
      refine X_getR i_X10_nextServed_14 f_X10_22 rfl ?_
      refine Y_iload_2 i_X10_nextServed_17 ?_
      refine Y_iald i_X10_nextServed_18 rfl ⟨by omega, by omega⟩ rfl rfl ?_
      refine X_iconst i_X10_nextServed_19 ?_
      refine Y_icmp_ne i_X10_nextServed_20 (tgt := 38) rfl ⟨by omega, by omega⟩ ⟨by omega, by omega⟩ (fun h20 => ?_) (fun h20 => ?_)
      · refine Y_iinc_2 i_X10_nextServed_38 rfl rfl ?_
        refine X_goto i_X10_nextServed_41 (tgt := 5) rfl ?_
        exact X_eq (ih (g + 1) (by omega)) (by rw [show sNq (M 3) (g + 1) = sNq (M 3) g by unfold sNq; rw [sNx_skip h20]]; rfl) rfl rfl
      · refine Y_iload_1 i_X10_nextServed_23 ?_
        refine X_if_lt i_X10_nextServed_24 (tgt := 36) rfl ⟨by omega, by omega⟩ (fun h24 => ?_) (fun h24 => ?_)
        · refine Y_iload_2 i_X10_nextServed_36 ?_
          refine Y_istore_1 i_X10_nextServed_37 rfl rfl ?_
          refine Y_iinc_2 i_X10_nextServed_38 rfl rfl ?_
          refine X_goto i_X10_nextServed_41 (tgt := 5) rfl ?_
          exact X_eq (ih (g + 1) (by omega)) (by rw [sNq_eq (sNx_take0 (by omega) (by omega)) (by omega)]; rfl) rfl rfl
        · have hAq : sNq (M 3) g = sNx (M 3) g := by omega
          refine Y_aload_0 i_X10_nextServed_27 ?_
          refine Y_iload_2 i_X10_nextServed_28 ?_
          refine Y_iload_1 i_X10_nextServed_29 ?_
          refine Y_callV (k' := kX10_isAhead) i_X10_nextServed_30 l_X10_182 m_X10_isAhead (c_X10_isAhead (by first | rfl | assumption) hA (by omega) (by omega) (by omega) (by omega)) rfl rfl rfl rfl rfl ?_
          refine Y_ifq_eq i_X10_nextServed_33 (tgt := 38) rfl  (fun h33 => ?_) (fun h33 => ?_)
          · refine Y_iinc_2 i_X10_nextServed_38 rfl rfl ?_
            refine X_goto i_X10_nextServed_41 (tgt := 5) rfl ?_
            exact X_eq (ih (g + 1) (by omega)) (by rw [show sNq (M 3) (g + 1) = sNq (M 3) g by unfold sNq; rw [sNx_keep (by omega) (hAq ▸ h33)]]; rfl) rfl rfl
          · refine Y_iload_2 i_X10_nextServed_36 ?_
            refine Y_istore_1 i_X10_nextServed_37 rfl rfl ?_
            refine Y_iinc_2 i_X10_nextServed_38 rfl rfl ?_
            refine X_goto i_X10_nextServed_41 (tgt := 5) rfl ?_
            exact X_eq (ih (g + 1) (by omega)) (by rw [sNq_eq (sNx_take1 (by omega) (hAq ▸ h33)) (by omega)]; rfl) rfl rfl
  refine X_bipush i_X10_nextServed_0 (by decide +kernel) ?_
  refine Y_istore_1 i_X10_nextServed_2 rfl rfl ?_
  refine X_iconst i_X10_nextServed_3 ?_
  refine Y_istore_2 i_X10_nextServed_4 rfl rfl ?_
  exact loop (sG (M 3)) 0 (by omega)
theorem sCnt_c {A B : zAft} (h : A 3 = B 3) (s : Int) : ∀ n : Nat, sCnt A s n = sCnt B s n := by
  intro n
  induction n with
  | zero => rfl
  | succ n ih => simp only [sCnt]; rw [ih, h]
theorem sCnt_w {B : zAft} {p : Int} (hp0 : 0 ≤ p) (hp : B 3 p = 1) : ∀ n : Nat, sCnt (zwr B 3 p 2) 2 n = sCnt B 2 n + (if p < n then 1 else 0) := by
  intro n
  induction n with
  | zero => simp only [sCnt]; rw [if_neg (by omega)]; rfl
  | succ n ih =>
    simp only [sCnt]
    by_cases e : (n : Int) = p
    · rw [ih, e, zr0, hp]
      rw [if_pos rfl, if_neg (by omega), if_neg (by omega), if_pos (by omega)]
    · rw [ih, zwr_i e]
      by_cases q : p < n
      · rw [if_pos q, if_pos (show p < ((n + 1 : Nat) : Int) by omega)]; omega
      · rw [if_neg q, if_neg (show ¬ p < ((n + 1 : Nat) : Int) by omega)]; omega
theorem sP1_many {b : Int} {A : zAft} (h : zH b A) (hp : 0 ≤ sPr A) : sMany (sP1 A) 2 = sMany A 2 + 1 := by
  have h1 := sPr_in h
  have h2 := sG_le h
  have e : sG (sP1 A) = sG A := by unfold sG; rw [sP1_6 A 0 (by omega)]
  unfold sMany
  rw [e]
  unfold sP1
  rw [if_neg (by omega), sCnt_c (B := zwr A 3 (sPr A) 2) (zwr_row rfl), sCnt_w hp (by omega), if_pos (by omega)]
def sSr (S : zAft) (g : Int) : zAft := if S 1 0 < 200 then zwr (zwr S 0 (S 1 0) g) 1 0 (S 1 0 + 1) else S
def sUn : Nat → zAft → zAft → zAft
  | 0, _, S => S
  | n + 1, A, S => if sPr A < 0 then S else sUn n (sP1 A) (sSr S (sPr A))
def sRS (A S : zAft) : Nat → zAft
  | 0 => S
  | n + 1 => sUn 6 (sUns (sRun A n)) (sRS A S n)
def zSv (S : zAft) : Prop := 0 ≤ S 1 0 ∧ S 1 0 ≤ 200
theorem sSr_in {S : zAft} (h : zSv S) (g : Int) : zSv (sSr S g) := by
  unfold zSv at h
  unfold sSr
  split
  · unfold zSv; rw [zr0]; omega
  · exact h
theorem sUn_in : ∀ (n : Nat) (A S : zAft), zSv S → zSv (sUn n A S) := by
  intro n
  induction n with
  | zero => intro A S h; exact h
  | succ n ih =>
    intro A S h
    simp only [sUn]
    split
    · exact h
    · exact ih _ _ (sSr_in h _)
theorem sRS_in (A : zAft) {S : zAft} (h : zSv S) : ∀ n : Nat, zSv (sRS A S n) := by
  intro n
  induction n with
  | zero => exact h
  | succ n ih => exact sUn_in _ _ _ ih
set_option maxRecDepth 100000 in
theorem c_X10_pours {M : zMem} {A S K : zAft} {b : Int} (hA : zOk b A) (hS : zSv S) (hb : b ≤ 100000) (hp6 : A 6 4 + 6 ≤ 6 * A 6 3) : zCt kX10_pours 2 [.ref 38] ((zs (zs (zs M 14 S) 13 K) 3 A)) (zVoid (zs (zs (zs M 14 (sUn 6 A S)) 13 K) 3 (sPn A 6))) := by
  have hmm := sMany_in hA.1 2
  refine zMet (by decide) (Nat.le_of_ble_eq_true rfl) ?_
  show zX kX10_pours 2 0 [some (.ref 38), none] [] _ _
  have loop : ∀ (n : Nat) (g : Nat) (B T : zAft) (L : Option Value), g + n = 6 → zOk b B → zSv T → B 6 4 + n ≤ 6 * B 6 3 → 5 < sMany B 2 + n → zX kX10_pours 2 0 [some (.ref 38), L] [] (zs (zs (zs M 14 T) 13 K) 3 B) (zVoid (zs (zs (zs M 14 (sUn n B T)) 13 K) 3 (sPn B n))) := by
    intro n
    induction n with
    | zero =>
      intro g B T L hg hB hT hp hm
      have h6 := hB.1
      unfold zH at h6
      have hmm := sMany_in hB.1 2
      refine Y_aload_0 i_X10_pours_0 ?_
      refine X_iconst i_X10_pours_1 ?_
      refine Y_callV (k' := kX10_manyIn) i_X10_pours_2 l_X10_101 m_X10_manyIn (c_X10_manyIn (zs_self _ _ _) hB (zR_lit rfl)) rfl rfl rfl rfl rfl ?_
      refine Y_aload_0 i_X10_pours_5 ?_
      refine Y_getI i_X10_pours_6 f_X10_58 rfl (zg0 _ _ _ _ _) ?_
      refine X_icmp_ge i_X10_pours_9 (tgt := 74) rfl ⟨by omega, by omega⟩ ⟨by omega, by omega⟩ (fun h9 => ?_) (fun h9 => by exfalso; omega)
      refine X_vret i_X10_pours_74 rfl ?_
      exact zrv0 rfl
    | succ n ih =>
      intro g B T L hg hB hT hp hm
      have h6 := hB.1
      unfold zH at h6
      have hG := sG_le hB.1
      have hq := sNq_in B (sG B)
      have hmm := sMany_in hB.1 2
      have hq1 := sP1_64 B
      have hq2 := sP1_6 B 3 (by omega)
      have hT2 := hT
      unfold zSv at hT2
      refine Y_aload_0 i_X10_pours_0 ?_
      refine X_iconst i_X10_pours_1 ?_
      refine Y_callV (k' := kX10_manyIn) i_X10_pours_2 l_X10_101 m_X10_manyIn (c_X10_manyIn (zs_self _ _ _) hB (zR_lit rfl)) rfl rfl rfl rfl rfl ?_
      refine Y_aload_0 i_X10_pours_5 ?_
      refine Y_getI i_X10_pours_6 f_X10_58 rfl (zg0 _ _ _ _ _) ?_
      refine X_icmp_ge i_X10_pours_9 (tgt := 74) rfl ⟨by omega, by omega⟩ ⟨by omega, by omega⟩ (fun h9 => ?_) (fun h9 => ?_)
      · refine X_vret i_X10_pours_74 rfl ?_
        have hn : sPr B < 0 := by unfold sPr; rw [if_pos (by omega)]; decide
        exact zrv0 (by simp only [sUn, sPn]; rw [if_pos hn, if_pos hn])
      · refine Y_aload_0 i_X10_pours_12 ?_
        refine Y_callV (k' := kX10_nextServed) i_X10_pours_13 l_X10_185 m_X10_nextServed (c_X10_nextServed (zs_self _ _ _) hB) rfl rfl rfl rfl rfl ?_
        refine X_if_lt i_X10_pours_16 (tgt := 74) rfl ⟨by omega, by omega⟩ (fun h16 => ?_) (fun h16 => ?_)
        · refine X_vret i_X10_pours_74 rfl ?_
          have hn : sPr B < 0 := by unfold sPr; rw [if_neg (by omega)]; omega
          exact zrv0 (by simp only [sUn, sPn]; rw [if_pos hn, if_pos hn])
        · have hpr : sPr B = sNq B (sG B) := by unfold sPr; rw [if_neg (by omega)]; omega
          have hp1 := sP1_many hB.1 (by omega)
          have e1 : sP1 B = zwr (zwr B 3 (sNq B (sG B)) 2) 6 4 (B 6 4 + 1) := by unfold sP1; rw [if_neg (by omega), hpr]
          have e2 : sUn (n + 1) B T = sUn n (sP1 B) (sSr T (sPr B)) := by simp only [sUn]; rw [if_neg (by omega)]
          have e3 : sPn B (n + 1) = sPn (sP1 B) n := by simp only [sPn]; rw [if_neg (by omega)]
          refine Y_aload_0 i_X10_pours_19 ?_
          refine Y_callV (k' := kX10_nextServed) i_X10_pours_20 l_X10_185 m_X10_nextServed (c_X10_nextServed (zs_self _ _ _) hB) rfl rfl rfl rfl rfl ?_
          refine Y_istore_1 i_X10_pours_23 rfl rfl ?_
          refine Y_aload_0 i_X10_pours_24 ?_
          refine X_getR i_X10_pours_25 f_X10_22 rfl ?_
          refine Y_iload_1 i_X10_pours_28 ?_
          refine X_iconst i_X10_pours_29 ?_
          refine Y_iast i_X10_pours_30 rfl ⟨by omega, by omega⟩ rfl (zp0 _ _ _ _ _ _) ?_
          refine Y_aload_0 i_X10_pours_31 ?_
          refine X_dup i_X10_pours_32 rfl ?_
          refine Y_getI i_X10_pours_33 f_X10_161 rfl (zga (zr1 rfl rfl)) ?_
          refine X_iconst i_X10_pours_36 ?_
          refine X_iadd i_X10_pours_37 ?_
          refine Y_putI i_X10_pours_38 f_X10_161 rfl t_7_11 (zp0 _ _ _ _ _ _) ?_
          refine Y_aload_0 i_X10_pours_41 ?_
          refine Y_getI i_X10_pours_42 f_X10_188 rfl (zg1 rfl (zg1 rfl (zg0 _ _ _ _ _))) ?_
          refine X_sipush i_X10_pours_45 (by decide +kernel) ?_
          refine X_icmp_ge i_X10_pours_48 (tgt := 71) rfl ⟨by omega, by omega⟩ ⟨by omega, by omega⟩ (fun h48 => ?_) (fun h48 => ?_)
          · refine X_goto i_X10_pours_71 (tgt := 0) rfl ?_
            rw [e2, e3]
            have e4 : sSr T (sPr B) = T := by unfold sSr; rw [if_neg (by omega)]
            rw [e4, e1]
            rw [e1] at hp1 hq1 hq2
            exact ih (g + 1) _ _ _ (by omega) (e1 ▸ sP1_ok hB (by omega)) (e4 ▸ sSr_in hT _) (by omega) (by omega)
          · refine Y_aload_0 i_X10_pours_51 ?_
            refine X_getR i_X10_pours_52 f_X10_46 rfl ?_
            refine Y_aload_0 i_X10_pours_55 ?_
            refine Y_getI i_X10_pours_56 f_X10_188 rfl (zg1 rfl (zg1 rfl (zg0 _ _ _ _ _))) ?_
            refine Y_iload_1 i_X10_pours_59 ?_
            refine Y_iast i_X10_pours_60 rfl ⟨by omega, by omega⟩ rfl (zp1 rfl (zp1 rfl (zp0 _ _ _ _ _ _))) ?_
            refine Y_aload_0 i_X10_pours_61 ?_
            refine X_dup i_X10_pours_62 rfl ?_
            refine Y_getI i_X10_pours_63 f_X10_188 rfl (zg1 rfl (zg1 rfl (zga (zr1 rfl rfl)))) ?_
            refine X_iconst i_X10_pours_66 ?_
            refine X_iadd i_X10_pours_67 ?_
            refine Y_putI i_X10_pours_68 f_X10_188 rfl t_7_25 (zp1 rfl (zp1 rfl (zp0 _ _ _ _ _ _))) ?_
            refine X_goto i_X10_pours_71 (tgt := 0) rfl ?_
            rw [e2, e3]
            have e4 : sSr T (sPr B) = zwr (zwr T 0 (T 1 0) (sNq B (sG B))) 1 0 (T 1 0 + 1) := by unfold sSr; rw [if_pos (by omega), hpr]
            rw [e4, e1]
            rw [e1] at hp1 hq1 hq2
            exact ih (g + 1) _ _ _ (by omega) (e1 ▸ sP1_ok hB (by omega)) (e4 ▸ sSr_in hT _) (by omega) (by omega)
  exact loop 6 0 A S none (by omega) hA hS (by omega) (by omega)
theorem sUns_p {b : Int} {A : zAft} (h : zH b A) : sUns A 6 4 + 6 ≤ 6 * sUns A 6 3 := by
  unfold zH at h
  rw [sUns_6, sUns_6]; simp; omega
set_option maxRecDepth 100000 in
theorem c_X10_goesMinuteW {M : zMem} {A S K : zAft} {b : Int} (hA : zOk b A) (hS : zSv S) (hb : b ≤ 99999) {w : Int} (hw : zR w) : zCt kX10_goesMinute 3 [.ref 38, .int (zii w)] ((zs (zs (zs M 14 S) 13 K) 3 A)) (zVoid (zs (zs (zs M 14 (if w = 0 then sUn 6 (sUns A) S else S)) 13 K) 3 (if w = 0 then sMin A else sUns A))) := by
  have h6 := hA.1.1
  have hA9 := hA.1
  unfold zH at hA9
  have hG := sG_le hA.1
  have hU := sUns_ok hA
  have hA1 : zOk (b + 1) (zwr A 6 3 (A 6 3 + 1)) := by
    refine ⟨?_, fun g g0 g1 => zG_eq (hA.2 g g0 g1) (fun r hr => zwr_r (by omega))⟩
    have := hA.1
    unfold zH at this ⊢
    simp [zwr]; omega
  have hw1 := hw.1
  have hw2 := hw.2
  refine zMet (by decide) (Nat.le_of_ble_eq_true rfl) ?_
  show zX kX10_goesMinute 3 0 [some (.ref 38), some (.int (zii w)), none] [] _ _
  have loop : ∀ (n : Nat) (g : Nat), g + n = sG A → zX kX10_goesMinute 3 12 [some (.ref 38), some (.int (zii w)), some (.int (zii g))] [] (zs (zs (zs M 14 S) 13 K) 3 (sForN (zwr A 6 3 (A 6 3 + 1)) g)) (zVoid (zs (zs (zs M 14 (if w = 0 then sUn 6 (sUns A) S else S)) 13 K) 3 (if w = 0 then sMin A else sUns A))) := by
    intro n
    induction n with
    | zero =>
      intro g  hg 
      have h60 : sForN (zwr A 6 3 (A 6 3 + 1)) g 6 0 = A 6 0 := by rw [sForN_6]; rfl
      have hUe : sForN (zwr A 6 3 (A 6 3 + 1)) g = sUns A := by unfold sUns; rw [show g = sG A by omega]
      rw [hUe] at h60
      rw [hUe]
      refine Y_iload_2 i_X10_goesMinute_12 ?_
      refine Y_aload_0 i_X10_goesMinute_13 ?_
      refine Y_getI i_X10_goesMinute_14 f_X10_65 rfl (zg0 _ _ _ _ _) ?_
      refine X_icmp_ge i_X10_goesMinute_17 (tgt := 31) rfl ⟨by omega, by omega⟩ ⟨by omega, by omega⟩ (fun h17 => ?_) (fun h17 => by exfalso; omega)
      refine Y_iload_1 i_X10_goesMinute_31 ?_
      refine Y_if_ne i_X10_goesMinute_32 (tgt := 39) rfl ⟨by omega, by omega⟩ (fun h32 => ?_) (fun h32 => ?_)
      · refine X_vret i_X10_goesMinute_39 rfl ?_
        exact zrv0 (by rw [if_neg (by omega), if_neg (by omega)])
      · refine Y_aload_0 i_X10_goesMinute_35 ?_
        refine Y_callVv (k' := kX10_pours) i_X10_goesMinute_36 l_X10_194 m_X10_pours (c_X10_pours hU hS (by omega) (sUns_p hA.1)) rfl rfl rfl rfl rfl ?_
        refine X_vret i_X10_goesMinute_39 rfl ?_
        exact zrv0 (by rw [if_pos (by omega), if_pos (by omega)]; rfl)
    | succ n ih =>
      intro g  hg 
      have h60 : sForN (zwr A 6 3 (A 6 3 + 1)) g 6 0 = A 6 0 := by rw [sForN_6]; rfl
      refine Y_iload_2 i_X10_goesMinute_12 ?_
      refine Y_aload_0 i_X10_goesMinute_13 ?_
      refine Y_getI i_X10_goesMinute_14 f_X10_65 rfl (zg0 _ _ _ _ _) ?_
      refine X_icmp_ge i_X10_goesMinute_17 (tgt := 31) rfl ⟨by omega, by omega⟩ ⟨by omega, by omega⟩ (fun h17 => by exfalso; omega) (fun h17 => ?_)
      refine Y_aload_0 i_X10_goesMinute_20 ?_
      refine Y_iload_2 i_X10_goesMinute_21 ?_
      refine Y_callVv (k' := kX10_goesOne) i_X10_goesMinute_22 l_X10_191 m_X10_goesOne ((c_X10_goesOne (M := zs (zs M 14 S) 13 K) (sForN_ok hA1 g (by omega)) (by omega) (by omega))) rfl rfl rfl rfl rfl ?_
      refine Y_iinc_2 i_X10_goesMinute_25 rfl rfl ?_
      refine X_goto i_X10_goesMinute_28 (tgt := 12) rfl ?_
      exact X_eq (ih (g + 1) (by omega)) (by simp) rfl rfl
  refine Y_aload_0 i_X10_goesMinute_0 ?_
  refine X_dup i_X10_goesMinute_1 rfl ?_
  refine Y_getI i_X10_goesMinute_2 f_X10_104 rfl (zg0 _ _ _ _ _) ?_
  refine X_iconst i_X10_goesMinute_5 ?_
  refine X_iadd i_X10_goesMinute_6 ?_
  refine Y_putI i_X10_goesMinute_7 f_X10_104 rfl t_7_10 (zp0 _ _ _ _ _ _) ?_
  refine X_iconst i_X10_goesMinute_10 ?_
  refine Y_istore_2 i_X10_goesMinute_11 rfl rfl ?_
  exact loop (sG A) 0 (by omega)
theorem c_X10_goesMinute {M : zMem} {A S K : zAft} {b : Int} (hA : zOk b A) (hS : zSv S) (hb : b ≤ 99999) : zCt kX10_goesMinute 3 [.ref 38, .int (zii 0)] (zs (zs (zs M 14 S) 13 K) 3 A) (zVoid (zs (zs (zs M 14 (sUn 6 (sUns A) S)) 13 K) 3 (sMin A))) := by
  have h := c_X10_goesMinuteW (M := M) (K := K) hA hS hb (w := 0) (zR_lit rfl)
  rw [if_pos rfl, if_pos rfl] at h
  exact h
set_option maxRecDepth 100000 in
theorem c_X10_goes {M : zMem} {A S K : zAft} {b : Int} (hA : zOk b A) (hS : zSv S) (hb : b ≤ 2000) {t : Nat} (ht : t ≤ 1000) : zCt kX10_goes 4 [.ref 38, .int (zii t)] ((zs (zs (zs M 14 S) 13 K) 3 A)) (zVoid (zs (zs (zs M 14 (sRS A S t)) 13 K) 3 (sRun A t))) := by
  refine zMet (by decide) (Nat.le_of_ble_eq_true rfl) ?_
  show zX kX10_goes 4 0 [some (.ref 38), some (.int (zii t)), none] [] _ _
  have loop : ∀ (n : Nat) (j : Nat), j + n = t → zX kX10_goes 4 2 [some (.ref 38), some (.int (zii t)), some (.int (zii j))] [] (zs (zs (zs M 14 (sRS A S j)) 13 K) 3 (sRun A j)) (zVoid (zs (zs (zs M 14 (sRS A S t)) 13 K) 3 (sRun A t))) := by
    intro n
    induction n with
    | zero =>
      intro j  hg 
      obtain rfl : j = t := by omega
      refine Y_iload_2 i_X10_goes_2 ?_
      refine Y_iload_1 i_X10_goes_3 ?_
      refine X_icmp_ge i_X10_goes_4 (tgt := 18) rfl ⟨by omega, by omega⟩ ⟨by omega, by omega⟩ (fun h4 => ?_) (fun h4 => by exfalso; omega)
      refine X_vret i_X10_goes_18 rfl ?_
      exact zrv0 rfl
    | succ n ih =>
      intro j  hg 
      refine Y_iload_2 i_X10_goes_2 ?_
      refine Y_iload_1 i_X10_goes_3 ?_
      refine X_icmp_ge i_X10_goes_4 (tgt := 18) rfl ⟨by omega, by omega⟩ ⟨by omega, by omega⟩ (fun h4 => by exfalso; omega) (fun h4 => ?_)
      refine Y_aload_0 i_X10_goes_7 ?_
      refine X_iconst i_X10_goes_8 ?_
      refine Y_callVv (k' := kX10_goesMinute) i_X10_goes_9 l_X10_197 m_X10_goesMinute (c_X10_goesMinute (sRun_ok hA j) (sRS_in A hS j) (by omega)) rfl rfl rfl rfl rfl ?_
      refine Y_iinc_2 i_X10_goes_12 rfl rfl ?_
      refine X_goto i_X10_goes_15 (tgt := 2) rfl ?_
      exact X_eq (ih (j + 1) (by omega)) (by simp) rfl rfl
  refine X_iconst i_X10_goes_0 ?_
  refine Y_istore_2 i_X10_goes_1 rfl rfl ?_
  exact loop t 0 (by omega)
