def zAp (w : Int) (vr v : Value) (P : zMem → Prop) (X0 : zMem) : Option Value → zMem → Prop := fun r M' => (w ≠ 0 ∧ r = some vr ∧ zEy (zNy X0 w) M') ∨ (w = 0 ∧ r = some v ∧ P M')
theorem zap1 {W w : Int} {v : Value} {P : zMem → Prop} {X0 : zMem} (h : W = w) (hn : w ≠ 0) (hS : zSv (X0 14)) : zAp W (.int (zii W)) v P X0 (some (.int (zii w))) (zNy X0 w) := by subst h; exact Or.inl ⟨hn, rfl, zey_rf hS⟩
theorem zap0 {W : Int} {vr v v' : Value} {P : zMem → Prop} {X0 M' : zMem} (h : W = 0) (hv : v' = v) (hm : P M') : zAp W vr v P X0 (some v') M' := by subst hv; exact Or.inr ⟨h, rfl, hm⟩
def sSh (K : zAft) (k : Int) : zAft := fun r i => if r = 0 ∧ 126 ≤ i ∧ i < k then K 0 (i + 42) else K r i
theorem sSh_0 (K : zAft) : sSh K 126 = K := by
  funext r i; unfold sSh; rw [if_neg (by omega)]
theorem sSh_s (K : zAft) {k : Int} (h : 126 ≤ k) : zwr (sSh K k) 0 k (sSh K k 0 (k + 42)) = sSh K (k + 1) := by
  funext r i
  have e0 : sSh K k 0 (k + 42) = K 0 (k + 42) := by unfold sSh; rw [if_neg (by omega)]
  rw [e0]
  unfold zwr sSh
  by_cases e : r = 0 ∧ i = k
  · rw [if_pos e, if_pos (by omega), e.2]
  · rw [if_neg e]
    by_cases e2 : r = 0 ∧ 126 ≤ i ∧ i < k
    · rw [if_pos e2, if_pos (by omega)]
    · rw [if_neg e2, if_neg (by omega)]
/-- A kept as one more to go back to -/
def zKb (K A K9 : zAft) : Prop := K9 1 0 = K 1 0 ∧ (∀ i : Int, i < 42 → K9 0 i = K 0 i) ∧ (K 1 3 < 8 → K9 1 3 = K 1 3 + 1 ∧ zKp K9 (3 + K 1 3) A ∧ ∀ i : Int, 126 ≤ i → i < 126 + 42 * K 1 3 → K9 0 i = K 0 i) ∧ (K 1 3 = 8 → K9 1 3 = 8 ∧ zKp K9 10 A ∧ ∀ i : Int, 126 ≤ i → i < 420 → K9 0 i = K 0 (i + 42))
theorem zKp_w {K A : zAft} {w i v : Int} (h : zKp K w A) : zKp (zwr K 1 i v) w A := fun x h0 h1 => by rw [zwr_r (by decide)]; exact h x h0 h1
set_option maxRecDepth 100000 in
theorem c_X10_keepsBack {M : zMem} {A K : zAft} (h0 : 0 ≤ K 1 3) (h8 : K 1 3 ≤ 8) : zCt kX10_keepsBack 2 [.ref 38] ((zs (zs M 13 K) 3 A)) (fun o M9 => o = none ∧ ∃ K9, zKb K A K9 ∧ M9 = zs (zs M 13 K9) 3 A) := by
  refine zMet (by decide) (Nat.le_of_ble_eq_true rfl) ?_
  show zX kX10_keepsBack 2 0 [some (.ref 38), none] [] _ _
  refine Y_aload_0 i_X10_keepsBack_0 ?_
  refine Y_getI i_X10_keepsBack_1 f_X10_144 rfl (zg1 rfl (zg0 _ _ _ _ _)) ?_
  refine X_bipush i_X10_keepsBack_4 (by decide +kernel) ?_
  refine Y_icmp_ne i_X10_keepsBack_6 (tgt := 50) rfl ⟨by omega, by omega⟩ ⟨by omega, by omega⟩ (fun h6 => ?_) (fun h6 => ?_)
  · refine Y_aload_0 i_X10_keepsBack_50 ?_
    refine X_iconst i_X10_keepsBack_51 ?_
    refine Y_aload_0 i_X10_keepsBack_52 ?_
    refine Y_getI i_X10_keepsBack_53 f_X10_144 rfl (zg1 rfl (zg0 _ _ _ _ _)) ?_
    refine X_iadd i_X10_keepsBack_56 ?_
    refine X_iconst i_X10_keepsBack_57 ?_
    refine Y_callVq (k' := kX10_passesAll) i_X10_keepsBack_58 l_X10_137 m_X10_passesAll (c_X10_keepAll (w := 3 + K 1 3) (by omega) (by omega)) rfl rfl rfl rfl rfl ?_
    intro r9 M9 hr9
    obtain ⟨rfl, K2, hk2, rfl⟩ := hr9
    refine X_tl0 ?_
    refine Y_aload_0 i_X10_keepsBack_61 ?_
    refine X_dup i_X10_keepsBack_62 rfl ?_
    refine Y_getI i_X10_keepsBack_63 f_X10_144 rfl (zg1 rfl (zg0 _ _ _ _ _)) ?_
    refine X_iconst i_X10_keepsBack_66 ?_
    refine X_iadd i_X10_keepsBack_67 ?_
    refine Y_putI i_X10_keepsBack_68 f_X10_144 rfl t_7_23 (zp1 rfl (zp0 _ _ _ _ _ _)) ?_
    refine X_vret i_X10_keepsBack_71 rfl ?_
    exact ⟨rfl, _, ⟨by rw [zr2 (by decide) rfl]; exact hk2.2.2.1, fun i hi => by rw [zwr_r (by decide)]; exact hk2.2.1 i (by omega), fun _ => ⟨by rw [zr0, hk2.2.2.2], zKp_w hk2.1, fun i h0 h1 => by rw [zwr_r (by decide)]; exact hk2.2.1 i (by omega)⟩, fun h9 => absurd h9 (by omega)⟩, rfl⟩
  · refine X_bipush i_X10_keepsBack_9 (by decide +kernel) ?_
    refine Y_istore_1 i_X10_keepsBack_11 rfl rfl ?_
    have h6 : K 1 3 = 8 := by omega
    have loop : ∀ (n : Nat) (j : Nat), j + n = 294 → zX kX10_keepsBack 2 12 [some (.ref 38), some (.int (zii (126 + (j : Int))))] [] (zs (zs M 13 (sSh K (126 + (j : Int)))) 3 A) (fun o M9 => o = none ∧ ∃ K9, zKb K A K9 ∧ M9 = zs (zs M 13 K9) 3 A) := by
      intro n
      induction n with
      | zero =>
        intro j  hg 
        obtain rfl : j = 294 := by omega
        have e13 : sSh K (126 + ((294 : Nat) : Int)) 1 3 = K 1 3 := by unfold sSh; rw [if_neg (by omega)]
        have e10 : sSh K (126 + ((294 : Nat) : Int)) 1 0 = K 1 0 := by unfold sSh; rw [if_neg (by omega)]
        refine Y_iload_1 i_X10_keepsBack_12 ?_
        refine X_sipush i_X10_keepsBack_13 (by decide +kernel) ?_
        refine X_icmp_ge i_X10_keepsBack_16 (tgt := 40) rfl ⟨by omega, by omega⟩ ⟨by omega, by omega⟩ (fun h16 => ?_) (fun h16 => by exfalso; omega)
        refine Y_aload_0 i_X10_keepsBack_40 ?_
        refine X_dup i_X10_keepsBack_41 rfl ?_
        refine Y_getI i_X10_keepsBack_42 f_X10_144 rfl (zg1 rfl (zg0 _ _ _ _ _)) ?_
        refine X_iconst i_X10_keepsBack_45 ?_
        refine X_isub i_X10_keepsBack_46 ?_
        refine Y_putI i_X10_keepsBack_47 f_X10_144 rfl t_7_23 (zp1 rfl (zp0 _ _ _ _ _ _)) ?_
        rw [e13, h6]
        refine Y_aload_0 i_X10_keepsBack_50 ?_
        refine X_iconst i_X10_keepsBack_51 ?_
        refine Y_aload_0 i_X10_keepsBack_52 ?_
        refine Y_getI i_X10_keepsBack_53 f_X10_144 rfl (zg1 rfl (zga zr0)) ?_
        
        refine X_iadd i_X10_keepsBack_56 ?_
        
        refine X_iconst i_X10_keepsBack_57 ?_
        refine Y_callVq (k' := kX10_passesAll) i_X10_keepsBack_58 l_X10_137 m_X10_passesAll (c_X10_keepAll (w := 10) (by omega) (by omega)) rfl rfl rfl rfl rfl ?_
        intro r9 M9 hr9
        obtain ⟨rfl, K2, hk2, rfl⟩ := hr9
        refine X_tl0 ?_
        refine Y_aload_0 i_X10_keepsBack_61 ?_
        refine X_dup i_X10_keepsBack_62 rfl ?_
        refine Y_getI i_X10_keepsBack_63 f_X10_144 rfl (zg1 rfl (zg0 _ _ _ _ _)) ?_
        refine X_iconst i_X10_keepsBack_66 ?_
        refine X_iadd i_X10_keepsBack_67 ?_
        refine Y_putI i_X10_keepsBack_68 f_X10_144 rfl t_7_23 (zp1 rfl (zp0 _ _ _ _ _ _)) ?_
        
        refine X_vret i_X10_keepsBack_71 rfl ?_
        have hk3 : K2 1 3 = 7 := by rw [hk2.2.2.2, zr0]; rfl
        exact ⟨rfl, _, ⟨by rw [zr2 (by decide) rfl, hk2.2.2.1, zr2 (by decide) rfl]; exact e10, fun i hi => by
          rw [zwr_r (by decide), hk2.2.1 i (by omega), zwr_r (by decide)]
          unfold sSh; rw [if_neg (by omega)], fun h9 => absurd h9 (by omega), fun _ => ⟨by rw [zr0, hk3]; rfl, zKp_w hk2.1, fun i h0 h1 => by
          rw [zwr_r (by decide), hk2.2.1 i (by omega), zwr_r (by decide)]
          unfold sSh; rw [if_pos (by omega)]⟩⟩, rfl⟩
      | succ n ih =>
        intro j  hg 
        refine Y_iload_1 i_X10_keepsBack_12 ?_
        refine X_sipush i_X10_keepsBack_13 (by decide +kernel) ?_
        refine X_icmp_ge i_X10_keepsBack_16 (tgt := 40) rfl ⟨by omega, by omega⟩ ⟨by omega, by omega⟩ (fun h16 => by exfalso; omega) (fun h16 => ?_)
        refine Y_aload_0 i_X10_keepsBack_19 ?_
        refine X_getR i_X10_keepsBack_20 f_X10_43 rfl ?_
        refine Y_iload_1 i_X10_keepsBack_23 ?_
        refine Y_aload_0 i_X10_keepsBack_24 ?_
        refine X_getR i_X10_keepsBack_25 f_X10_43 rfl ?_
        refine Y_iload_1 i_X10_keepsBack_28 ?_
        refine X_bipush i_X10_keepsBack_29 (by decide +kernel) ?_
        refine X_iadd i_X10_keepsBack_31 ?_
        refine Y_iald i_X10_keepsBack_32 rfl ⟨by omega, by omega⟩ rfl (zg1 rfl (zg0 _ _ _ _ _)) ?_
        refine Y_iast i_X10_keepsBack_33 rfl ⟨by omega, by omega⟩ rfl (zp1 rfl (zp0 _ _ _ _ _ _)) ?_
        refine Y_iinc_1 i_X10_keepsBack_34 rfl rfl ?_
        refine X_goto i_X10_keepsBack_37 (tgt := 12) rfl ?_
        exact X_eq (ih (j + 1) (by omega)) (by rw [show (126 : Int) + ((j + 1 : Nat) : Int) = 126 + (j : Int) + 1 by omega]) rfl (by rw [show (126 : Int) + ((j + 1 : Nat) : Int) = 126 + (j : Int) + 1 by omega, sSh_s K (by omega)])
    exact X_eq (loop 294 0 (by omega)) (by rfl) rfl (by rw [show (126 : Int) + ((0 : Nat) : Int) = 126 from rfl, sSh_0])
set_option maxRecDepth 100000 in
theorem c_X10_guest {M N : zMem} {S K : zAft} (hA : zOk 999 (N 0)) (hS : zSv S) {x : Int} (h_x : zR x) {y : Int} (h_y : zR y) {z : Int} (h_z : zR z) : zCt kX10_guest 1 [.ref 38, .int (zii x), .int (zii y), .int (zii z)] ((zs (zs (zs M 14 S) 13 K) 3 (N 0))) (zAp (w_guest N x y z) (.int (zii (w_guest N x y z))) (.int (zii (a_guest N x y z))) (fun M9 => M9 = (zs (zs (zs M 14 S) 13 (zwr K 1 3 0)) 3 (sCome (N 0) x y z))) (zs (zs (zs M 14 S) 13 K) 3 (N 0))) := by
  have h6 := hA.1
  unfold zH at h6
  have hG := sG_le hA.1
  have b_x := h_x.1
  have c_x := h_x.2
  have b_y := h_y.1
  have c_y := h_y.2
  have b_z := h_z.1
  have c_z := h_z.2
  refine zMet (by decide) (Nat.le_of_ble_eq_true rfl) ?_
  show zX kX10_guest 1 0 [some (.ref 38), some (.int (zii x)), some (.int (zii y)), some (.int (zii z)), none] [] _ _
  refine Y_iload_1 i_X10_guest_0 ?_
  refine X_iconst i_X10_guest_1 ?_
  refine X_iconst i_X10_guest_2 ?_
  refine Y_callS (k' := kX10_isIn) i_X10_guest_3 l_X10_86 m_X10_isIn (c_X10_isIn ⟨by omega, by omega⟩ (zR_lit rfl) (zR_lit rfl)) rfl rfl rfl rfl ?_
  refine Y_ifq_ne i_X10_guest_6 (tgt := 14) rfl  (fun h6 => ?_) (fun h6 => ?_)
  · refine Y_iload_2 i_X10_guest_14 ?_
    refine X_if_lt i_X10_guest_15 (tgt := 22) rfl ⟨by omega, by omega⟩ (fun h15 => ?_) (fun h15 => ?_)
    · refine X_bipush i_X10_guest_22 (by decide +kernel) ?_
      refine X_goto i_X10_guest_24 (tgt := 54) rfl ?_
      refine Y_istore_4 i_X10_guest_54 rfl rfl ?_
      refine Y_iload_4 i_X10_guest_56 ?_
      refine X_if_eq i_X10_guest_58 (tgt := 68) rfl ⟨by omega, by omega⟩ (fun h58 => by exfalso; omega) (fun h58 => ?_)
      refine Y_aload_0 i_X10_guest_61 ?_
      refine Y_iload_4 i_X10_guest_62 ?_
      refine Y_callV (k' := kX10_no) i_X10_guest_64 l_X10_75 m_X10_no (c_X10_no (by omega) (by omega)) rfl rfl rfl rfl rfl ?_
      refine X_iret i_X10_guest_67 rfl ?_
      exact zap1 (by unfold w_guest sY_come; repeat (first | omega | split)) (by omega) hS
    · refine Y_iload_3 i_X10_guest_18 ?_
      refine X_if_ge i_X10_guest_19 (tgt := 27) rfl ⟨by omega, by omega⟩ (fun h19 => ?_) (fun h19 => ?_)
      · refine Y_iload_2 i_X10_guest_27 ?_
        refine X_bipush i_X10_guest_28 (by decide +kernel) ?_
        refine X_icmp_gt i_X10_guest_30 (tgt := 48) rfl ⟨by omega, by omega⟩ ⟨by omega, by omega⟩ (fun h30 => ?_) (fun h30 => ?_)
        · refine X_bipush i_X10_guest_48 (by decide +kernel) ?_
          refine X_goto i_X10_guest_50 (tgt := 54) rfl ?_
          refine Y_istore_4 i_X10_guest_54 rfl rfl ?_
          refine Y_iload_4 i_X10_guest_56 ?_
          refine X_if_eq i_X10_guest_58 (tgt := 68) rfl ⟨by omega, by omega⟩ (fun h58 => by exfalso; omega) (fun h58 => ?_)
          refine Y_aload_0 i_X10_guest_61 ?_
          refine Y_iload_4 i_X10_guest_62 ?_
          refine Y_callV (k' := kX10_no) i_X10_guest_64 l_X10_75 m_X10_no (c_X10_no (by omega) (by omega)) rfl rfl rfl rfl rfl ?_
          refine X_iret i_X10_guest_67 rfl ?_
          exact zap1 (by unfold w_guest sY_come; repeat (first | omega | split)) (by omega) hS
        · refine Y_iload_3 i_X10_guest_33 ?_
          refine X_bipush i_X10_guest_34 (by decide +kernel) ?_
          refine X_icmp_gt i_X10_guest_36 (tgt := 48) rfl ⟨by omega, by omega⟩ ⟨by omega, by omega⟩ (fun h36 => ?_) (fun h36 => ?_)
          · refine X_bipush i_X10_guest_48 (by decide +kernel) ?_
            refine X_goto i_X10_guest_50 (tgt := 54) rfl ?_
            refine Y_istore_4 i_X10_guest_54 rfl rfl ?_
            refine Y_iload_4 i_X10_guest_56 ?_
            refine X_if_eq i_X10_guest_58 (tgt := 68) rfl ⟨by omega, by omega⟩ (fun h58 => by exfalso; omega) (fun h58 => ?_)
            refine Y_aload_0 i_X10_guest_61 ?_
            refine Y_iload_4 i_X10_guest_62 ?_
            refine Y_callV (k' := kX10_no) i_X10_guest_64 l_X10_75 m_X10_no (c_X10_no (by omega) (by omega)) rfl rfl rfl rfl rfl ?_
            refine X_iret i_X10_guest_67 rfl ?_
            exact zap1 (by unfold w_guest sY_come; repeat (first | omega | split)) (by omega) hS
          · refine Y_aload_0 i_X10_guest_39 ?_
            refine Y_getI i_X10_guest_40 f_X10_65 rfl (zg0 _ _ _ _ _) ?_
            refine X_bipush i_X10_guest_43 (by decide +kernel) ?_
            refine Y_icmp_ne i_X10_guest_45 (tgt := 53) rfl ⟨by omega, by omega⟩ ⟨by omega, by omega⟩ (fun h45 => ?_) (fun h45 => ?_)
            · refine X_iconst i_X10_guest_53 ?_
              refine Y_istore_4 i_X10_guest_54 rfl rfl ?_
              refine Y_iload_4 i_X10_guest_56 ?_
              refine X_if_eq i_X10_guest_58 (tgt := 68) rfl ⟨by omega, by omega⟩ (fun h58 => ?_) (fun h58 => by exfalso; omega)
              refine Y_aload_0 i_X10_guest_68 ?_
              refine X_iconst i_X10_guest_69 ?_
              refine Y_putI i_X10_guest_70 f_X10_144 rfl t_7_23 (zp1 rfl (zp0 _ _ _ _ _ _)) ?_
              refine Y_aload_0 i_X10_guest_73 ?_
              refine Y_iload_1 i_X10_guest_74 ?_
              refine Y_iload_2 i_X10_guest_75 ?_
              refine Y_iload_3 i_X10_guest_76 ?_
              refine Y_callVv (k' := kX10_adds) i_X10_guest_77 l_X10_97 m_X10_adds (c_X10_adds (M := zs (zs M 14 S) 13 (zwr K 1 3 0)) (by omega) (by omega)) rfl rfl rfl rfl rfl ?_
              refine Y_aload_0 i_X10_guest_80 ?_
              refine Y_getI i_X10_guest_81 f_X10_65 rfl (zg0 _ _ _ _ _) ?_
              rw [sCome_60]
              refine X_iconst i_X10_guest_84 ?_
              refine X_isub i_X10_guest_85 ?_
              refine X_iret i_X10_guest_86 rfl ?_
              exact zap0 (by unfold w_guest sY_come; repeat (first | omega | split)) (zvi (by unfold a_guest; omega)) (rfl)
            · refine X_bipush i_X10_guest_48 (by decide +kernel) ?_
              refine X_goto i_X10_guest_50 (tgt := 54) rfl ?_
              refine Y_istore_4 i_X10_guest_54 rfl rfl ?_
              refine Y_iload_4 i_X10_guest_56 ?_
              refine X_if_eq i_X10_guest_58 (tgt := 68) rfl ⟨by omega, by omega⟩ (fun h58 => by exfalso; omega) (fun h58 => ?_)
              refine Y_aload_0 i_X10_guest_61 ?_
              refine Y_iload_4 i_X10_guest_62 ?_
              refine Y_callV (k' := kX10_no) i_X10_guest_64 l_X10_75 m_X10_no (c_X10_no (by omega) (by omega)) rfl rfl rfl rfl rfl ?_
              refine X_iret i_X10_guest_67 rfl ?_
              exact zap1 (by unfold w_guest sY_come; repeat (first | omega | split)) (by omega) hS
      · refine X_bipush i_X10_guest_22 (by decide +kernel) ?_
        refine X_goto i_X10_guest_24 (tgt := 54) rfl ?_
        refine Y_istore_4 i_X10_guest_54 rfl rfl ?_
        refine Y_iload_4 i_X10_guest_56 ?_
        refine X_if_eq i_X10_guest_58 (tgt := 68) rfl ⟨by omega, by omega⟩ (fun h58 => by exfalso; omega) (fun h58 => ?_)
        refine Y_aload_0 i_X10_guest_61 ?_
        refine Y_iload_4 i_X10_guest_62 ?_
        refine Y_callV (k' := kX10_no) i_X10_guest_64 l_X10_75 m_X10_no (c_X10_no (by omega) (by omega)) rfl rfl rfl rfl rfl ?_
        refine X_iret i_X10_guest_67 rfl ?_
        exact zap1 (by unfold w_guest sY_come; repeat (first | omega | split)) (by omega) hS
  · refine X_bipush i_X10_guest_9 (by decide +kernel) ?_
    refine X_goto i_X10_guest_11 (tgt := 54) rfl ?_
    refine Y_istore_4 i_X10_guest_54 rfl rfl ?_
    refine Y_iload_4 i_X10_guest_56 ?_
    refine X_if_eq i_X10_guest_58 (tgt := 68) rfl ⟨by omega, by omega⟩ (fun h58 => by exfalso; omega) (fun h58 => ?_)
    refine Y_aload_0 i_X10_guest_61 ?_
    refine Y_iload_4 i_X10_guest_62 ?_
    refine Y_callV (k' := kX10_no) i_X10_guest_64 l_X10_75 m_X10_no (c_X10_no (by omega) (by omega)) rfl rfl rfl rfl rfl ?_
    refine X_iret i_X10_guest_67 rfl ?_
    exact zap1 (by unfold w_guest sY_come; repeat (first | omega | split)) (by omega) hS
set_option maxRecDepth 100000 in
theorem c_X10_rises {M N : zMem} {S K : zAft} (hA : zOk 999 (N 0)) (hS : zSv S) {x : Int} (h_x : zR x) (hb0 : 0 ≤ K 1 3) (hb8 : K 1 3 ≤ 8) : zCt kX10_rises 3 [.ref 38, .int (zii x)] ((zs (zs (zs M 14 S) 13 K) 3 (N 0))) (zAp (w_rises N x) (.int (zii (w_rises N x))) (.int (zii (a_rises N x))) (fun M9 => ∃ K9, zKb K (N 0) K9 ∧ M9 = (zs (zs (zs M 14 S) 13 K9) 3 (sRise (N 0) x))) (zs (zs (zs M 14 S) 13 K) 3 (N 0))) := by
  have h6 := hA.1
  unfold zH at h6
  have hG := sG_le hA.1
  have b_x := h_x.1
  have c_x := h_x.2
  refine zMet (by decide) (Nat.le_of_ble_eq_true rfl) ?_
  show zX kX10_rises 3 0 [some (.ref 38), some (.int (zii x)), none] [] _ _
  refine Y_aload_0 i_X10_rises_0 ?_
  refine Y_iload_1 i_X10_rises_1 ?_
  refine Y_callV (k' := kX10_isGuest) i_X10_rises_2 l_X10_111 m_X10_isGuest (c_X10_isGuest (zs_self _ _ _) hA ⟨by omega, by omega⟩) rfl rfl rfl rfl rfl ?_
  refine Y_ifq_ne i_X10_rises_5 (tgt := 12) rfl  (fun h5 => ?_) (fun h5 => ?_)
  · refine Y_aload_0 i_X10_rises_12 ?_
    have hgx := hA.2 x (by omega) (by omega)
    unfold zG at hgx
    refine X_getR i_X10_rises_13 f_X10_22 rfl ?_
    refine Y_iload_1 i_X10_rises_16 ?_
    refine Y_iald i_X10_rises_17 rfl ⟨by omega, by omega⟩ rfl (zg0 _ _ _ _ _) ?_
    refine X_if_eq i_X10_rises_18 (tgt := 26) rfl ⟨by omega, by omega⟩ (fun h18 => ?_) (fun h18 => ?_)
    · refine X_iconst i_X10_rises_26 ?_
      refine Y_istore_2 i_X10_rises_27 rfl rfl ?_
      refine Y_iload_2 i_X10_rises_28 ?_
      refine X_if_eq i_X10_rises_29 (tgt := 38) rfl ⟨by omega, by omega⟩ (fun h29 => ?_) (fun h29 => by exfalso; omega)
      refine Y_aload_0 i_X10_rises_38 ?_
      refine Y_callVq (k' := kX10_keepsBack) i_X10_rises_39 l_X10_201 m_X10_keepsBack (c_X10_keepsBack hb0 hb8) rfl rfl rfl rfl rfl ?_
      intro r9 M9 hr9
      obtain ⟨rfl, K9, hk9, rfl⟩ := hr9
      refine X_tl0 ?_
      refine Y_aload_0 i_X10_rises_42 ?_
      refine Y_iload_1 i_X10_rises_43 ?_
      refine Y_callVv (k' := kX10_standsUp) i_X10_rises_44 l_X10_115 m_X10_standsUp (c_X10_standsUp (M := zs (zs M 14 S) 13 K9) (by omega) (by omega)) rfl rfl rfl rfl rfl ?_
      refine Y_aload_0 i_X10_rises_47 ?_
      refine X_iconst i_X10_rises_48 ?_
      refine Y_callV (k' := kX10_manyIn) i_X10_rises_49 l_X10_101 m_X10_manyIn (c_X10_manyIn (zs_self _ _ _) (sRise_ok hA (by omega) (by omega) (by omega)) (zR_lit rfl)) rfl rfl rfl rfl rfl ?_
      refine X_iret i_X10_rises_52 rfl ?_
      exact zap0 (by unfold w_rises sY_rise; repeat (first | omega | split)) (zvi (rfl)) (⟨K9, hk9, rfl⟩)
    · refine X_bipush i_X10_rises_21 (by decide +kernel) ?_
      refine X_goto i_X10_rises_23 (tgt := 27) rfl ?_
      refine Y_istore_2 i_X10_rises_27 rfl rfl ?_
      refine Y_iload_2 i_X10_rises_28 ?_
      refine X_if_eq i_X10_rises_29 (tgt := 38) rfl ⟨by omega, by omega⟩ (fun h29 => by exfalso; omega) (fun h29 => ?_)
      refine Y_aload_0 i_X10_rises_32 ?_
      refine Y_iload_2 i_X10_rises_33 ?_
      refine Y_callV (k' := kX10_no) i_X10_rises_34 l_X10_75 m_X10_no (c_X10_no (by omega) (by omega)) rfl rfl rfl rfl rfl ?_
      refine X_iret i_X10_rises_37 rfl ?_
      exact zap1 (by unfold w_rises sY_rise; repeat (first | omega | split)) (by omega) hS
  · refine X_iconst i_X10_rises_8 ?_
    refine X_goto i_X10_rises_9 (tgt := 27) rfl ?_
    refine Y_istore_2 i_X10_rises_27 rfl rfl ?_
    refine Y_iload_2 i_X10_rises_28 ?_
    refine X_if_eq i_X10_rises_29 (tgt := 38) rfl ⟨by omega, by omega⟩ (fun h29 => by exfalso; omega) (fun h29 => ?_)
    refine Y_aload_0 i_X10_rises_32 ?_
    refine Y_iload_2 i_X10_rises_33 ?_
    refine Y_callV (k' := kX10_no) i_X10_rises_34 l_X10_75 m_X10_no (c_X10_no (by omega) (by omega)) rfl rfl rfl rfl rfl ?_
    refine X_iret i_X10_rises_37 rfl ?_
    exact zap1 (by unfold w_rises sY_rise; repeat (first | omega | split)) (by omega) hS
set_option maxRecDepth 100000 in
theorem c_X10_slips {M N : zMem} {S K : zAft} (hA : zOk 999 (N 0)) (hS : zSv S) {x : Int} (h_x : zR x) (hb0 : 0 ≤ K 1 3) (hb8 : K 1 3 ≤ 8) : zCt kX10_slips 3 [.ref 38, .int (zii x)] ((zs (zs (zs M 14 S) 13 K) 3 (N 0))) (zAp (w_slips N x) (.int (zii (w_slips N x))) (.int (zii (a_slips N x))) (fun M9 => ∃ K9, zKb K (N 0) K9 ∧ M9 = (zs (zs (zs M 14 S) 13 K9) 3 (zwr (N 0) 3 x 3))) (zs (zs (zs M 14 S) 13 K) 3 (N 0))) := by
  have h6 := hA.1
  unfold zH at h6
  have hG := sG_le hA.1
  have b_x := h_x.1
  have c_x := h_x.2
  refine zMet (by decide) (Nat.le_of_ble_eq_true rfl) ?_
  show zX kX10_slips 3 0 [some (.ref 38), some (.int (zii x)), none] [] _ _
  refine Y_aload_0 i_X10_slips_0 ?_
  refine Y_iload_1 i_X10_slips_1 ?_
  refine Y_callV (k' := kX10_isGuest) i_X10_slips_2 l_X10_111 m_X10_isGuest (c_X10_isGuest (zs_self _ _ _) hA ⟨by omega, by omega⟩) rfl rfl rfl rfl rfl ?_
  refine Y_ifq_ne i_X10_slips_5 (tgt := 12) rfl  (fun h5 => ?_) (fun h5 => ?_)
  · refine Y_aload_0 i_X10_slips_12 ?_
    have hgx := hA.2 x (by omega) (by omega)
    unfold zG at hgx
    refine X_getR i_X10_slips_13 f_X10_22 rfl ?_
    refine Y_iload_1 i_X10_slips_16 ?_
    refine Y_iald i_X10_slips_17 rfl ⟨by omega, by omega⟩ rfl (zg0 _ _ _ _ _) ?_
    refine X_iconst i_X10_slips_18 ?_
    refine X_icmp_le i_X10_slips_19 (tgt := 27) rfl ⟨by omega, by omega⟩ ⟨by omega, by omega⟩ (fun h19 => ?_) (fun h19 => ?_)
    · refine X_iconst i_X10_slips_27 ?_
      refine Y_istore_2 i_X10_slips_28 rfl rfl ?_
      refine Y_iload_2 i_X10_slips_29 ?_
      refine X_if_eq i_X10_slips_30 (tgt := 39) rfl ⟨by omega, by omega⟩ (fun h30 => ?_) (fun h30 => by exfalso; omega)
      refine Y_aload_0 i_X10_slips_39 ?_
      refine Y_callVq (k' := kX10_keepsBack) i_X10_slips_40 l_X10_201 m_X10_keepsBack (c_X10_keepsBack hb0 hb8) rfl rfl rfl rfl rfl ?_
      intro r9 M9 hr9
      obtain ⟨rfl, K9, hk9, rfl⟩ := hr9
      refine X_tl0 ?_
      refine Y_aload_0 i_X10_slips_43 ?_
      refine X_getR i_X10_slips_44 f_X10_22 rfl ?_
      refine Y_iload_1 i_X10_slips_47 ?_
      refine X_iconst i_X10_slips_48 ?_
      refine Y_iast i_X10_slips_49 rfl ⟨by omega, by omega⟩ rfl (zp0 _ _ _ _ _ _) ?_
      refine Y_aload_0 i_X10_slips_50 ?_
      refine X_iconst i_X10_slips_51 ?_
      refine Y_callV (k' := kX10_manyIn) i_X10_slips_52 l_X10_101 m_X10_manyIn (c_X10_manyIn (zs_self _ _ _) (sSlip_ok hA (x := x) (by unfold sY_slip; repeat (first | omega | split))) (zR_lit rfl)) rfl rfl rfl rfl rfl ?_
      refine X_iret i_X10_slips_55 rfl ?_
      exact zap0 (by unfold w_slips sY_slip; repeat (first | omega | split)) (zvi (rfl)) (⟨K9, hk9, rfl⟩)
    · refine X_bipush i_X10_slips_22 (by decide +kernel) ?_
      refine X_goto i_X10_slips_24 (tgt := 28) rfl ?_
      refine Y_istore_2 i_X10_slips_28 rfl rfl ?_
      refine Y_iload_2 i_X10_slips_29 ?_
      refine X_if_eq i_X10_slips_30 (tgt := 39) rfl ⟨by omega, by omega⟩ (fun h30 => by exfalso; omega) (fun h30 => ?_)
      refine Y_aload_0 i_X10_slips_33 ?_
      refine Y_iload_2 i_X10_slips_34 ?_
      refine Y_callV (k' := kX10_no) i_X10_slips_35 l_X10_75 m_X10_no (c_X10_no (by omega) (by omega)) rfl rfl rfl rfl rfl ?_
      refine X_iret i_X10_slips_38 rfl ?_
      exact zap1 (by unfold w_slips sY_slip; repeat (first | omega | split)) (by omega) hS
  · refine X_iconst i_X10_slips_8 ?_
    refine X_goto i_X10_slips_9 (tgt := 28) rfl ?_
    refine Y_istore_2 i_X10_slips_28 rfl rfl ?_
    refine Y_iload_2 i_X10_slips_29 ?_
    refine X_if_eq i_X10_slips_30 (tgt := 39) rfl ⟨by omega, by omega⟩ (fun h30 => by exfalso; omega) (fun h30 => ?_)
    refine Y_aload_0 i_X10_slips_33 ?_
    refine Y_iload_2 i_X10_slips_34 ?_
    refine Y_callV (k' := kX10_no) i_X10_slips_35 l_X10_75 m_X10_no (c_X10_no (by omega) (by omega)) rfl rfl rfl rfl rfl ?_
    refine X_iret i_X10_slips_38 rfl ?_
    exact zap1 (by unfold w_slips sY_slip; repeat (first | omega | split)) (by omega) hS
set_option maxRecDepth 100000 in
theorem c_X10_cups {M N : zMem} {S K : zAft} (hA : zOk 999 (N 0)) (hS : zSv S) {v : Int} (h_v : zR v) (hb0 : 0 ≤ K 1 3) (hb8 : K 1 3 ≤ 8) : zCt kX10_cups 3 [.ref 38, .int (zii v)] ((zs (zs (zs M 14 S) 13 K) 3 (N 0))) (zAp (w_cups N v) (.int (zii (w_cups N v))) (.int (zii (a_cups N v))) (fun M9 => ∃ K9, zKb K (N 0) K9 ∧ M9 = (zs (zs (zs M 14 S) 13 K9) 3 (zwr (N 0) 6 1 v))) (zs (zs (zs M 14 S) 13 K) 3 (N 0))) := by
  have h6 := hA.1
  unfold zH at h6
  have hG := sG_le hA.1
  have b_v := h_v.1
  have c_v := h_v.2
  have hm9 := sMany_in hA.1 2
  refine zMet (by decide) (Nat.le_of_ble_eq_true rfl) ?_
  show zX kX10_cups 3 0 [some (.ref 38), some (.int (zii v)), none, none] [] _ _
  refine Y_iload_1 i_X10_cups_0 ?_
  refine X_iconst i_X10_cups_1 ?_
  refine X_iconst i_X10_cups_2 ?_
  refine Y_callS (k' := kX10_bound) i_X10_cups_3 l_X10_68 m_X10_bound (c_X10_bound ⟨by omega, by omega⟩ (zR_lit rfl) (zR_lit rfl)) rfl rfl rfl rfl ?_
  refine Y_istore_2 i_X10_cups_6 rfl rfl ?_
  refine Y_iload_2 i_X10_cups_7 ?_
  refine Y_if_ne i_X10_cups_8 (tgt := 23) rfl ⟨by omega, by omega⟩ (fun h8 => ?_) (fun h8 => ?_)
  · refine Y_iload_2 i_X10_cups_23 ?_
    refine X_if_eq i_X10_cups_24 (tgt := 33) rfl ⟨by omega, by omega⟩ (fun h24 => ?_) (fun h24 => ?_)
    · refine Y_aload_0 i_X10_cups_33 ?_
      refine Y_callVq (k' := kX10_keepsBack) i_X10_cups_34 l_X10_201 m_X10_keepsBack (c_X10_keepsBack hb0 hb8) rfl rfl rfl rfl rfl ?_
      intro r9 M9 hr9
      obtain ⟨rfl, K9, hk9, rfl⟩ := hr9
      refine X_tl0 ?_
      refine Y_aload_0 i_X10_cups_37 ?_
      refine Y_getI i_X10_cups_38 f_X10_58 rfl (zg0 _ _ _ _ _) ?_
      refine Y_istore_3 i_X10_cups_41 rfl rfl ?_
      refine Y_aload_0 i_X10_cups_42 ?_
      refine Y_iload_1 i_X10_cups_43 ?_
      refine Y_putI i_X10_cups_44 f_X10_58 rfl t_7_8 (zp0 _ _ _ _ _ _) ?_
      refine Y_iload_3 i_X10_cups_47 ?_
      refine X_iret i_X10_cups_48 rfl ?_
      exact zap0 (by unfold w_cups sY_cups; repeat (first | omega | split)) (zvi (rfl)) (⟨K9, hk9, rfl⟩)
    · refine Y_aload_0 i_X10_cups_27 ?_
      refine Y_iload_2 i_X10_cups_28 ?_
      refine Y_callV (k' := kX10_no) i_X10_cups_29 l_X10_75 m_X10_no (c_X10_no (by omega) (by omega)) rfl rfl rfl rfl rfl ?_
      refine X_iret i_X10_cups_32 rfl ?_
      exact zap1 (by unfold w_cups sY_cups; repeat (first | omega | split)) (by omega) hS
  · refine Y_aload_0 i_X10_cups_11 ?_
    refine X_iconst i_X10_cups_12 ?_
    refine Y_callV (k' := kX10_manyIn) i_X10_cups_13 l_X10_101 m_X10_manyIn (c_X10_manyIn (zs_self _ _ _) hA (zR_lit rfl)) rfl rfl rfl rfl rfl ?_
    refine Y_iload_1 i_X10_cups_16 ?_
    refine X_icmp_le i_X10_cups_17 (tgt := 23) rfl ⟨by omega, by omega⟩ ⟨by omega, by omega⟩ (fun h17 => ?_) (fun h17 => ?_)
    · refine Y_iload_2 i_X10_cups_23 ?_
      refine X_if_eq i_X10_cups_24 (tgt := 33) rfl ⟨by omega, by omega⟩ (fun h24 => ?_) (fun h24 => ?_)
      · refine Y_aload_0 i_X10_cups_33 ?_
        refine Y_callVq (k' := kX10_keepsBack) i_X10_cups_34 l_X10_201 m_X10_keepsBack (c_X10_keepsBack hb0 hb8) rfl rfl rfl rfl rfl ?_
        intro r9 M9 hr9
        obtain ⟨rfl, K9, hk9, rfl⟩ := hr9
        refine X_tl0 ?_
        refine Y_aload_0 i_X10_cups_37 ?_
        refine Y_getI i_X10_cups_38 f_X10_58 rfl (zg0 _ _ _ _ _) ?_
        refine Y_istore_3 i_X10_cups_41 rfl rfl ?_
        refine Y_aload_0 i_X10_cups_42 ?_
        refine Y_iload_1 i_X10_cups_43 ?_
        refine Y_putI i_X10_cups_44 f_X10_58 rfl t_7_8 (zp0 _ _ _ _ _ _) ?_
        refine Y_iload_3 i_X10_cups_47 ?_
        refine X_iret i_X10_cups_48 rfl ?_
        exact zap0 (by unfold w_cups sY_cups; repeat (first | omega | split)) (zvi (rfl)) (⟨K9, hk9, rfl⟩)
      · refine Y_aload_0 i_X10_cups_27 ?_
        refine Y_iload_2 i_X10_cups_28 ?_
        refine Y_callV (k' := kX10_no) i_X10_cups_29 l_X10_75 m_X10_no (c_X10_no (by omega) (by omega)) rfl rfl rfl rfl rfl ?_
        refine X_iret i_X10_cups_32 rfl ?_
        exact zap1 (by unfold w_cups sY_cups; repeat (first | omega | split)) (by omega) hS
    · refine X_bipush i_X10_cups_20 (by decide +kernel) ?_
      refine Y_istore_2 i_X10_cups_22 rfl rfl ?_
      refine Y_iload_2 i_X10_cups_23 ?_
      refine X_if_eq i_X10_cups_24 (tgt := 33) rfl ⟨by omega, by omega⟩ (fun h24 => by exfalso; omega) (fun h24 => ?_)
      refine Y_aload_0 i_X10_cups_27 ?_
      refine Y_iload_2 i_X10_cups_28 ?_
      refine Y_callV (k' := kX10_no) i_X10_cups_29 l_X10_75 m_X10_no (c_X10_no (by omega) (by omega)) rfl rfl rfl rfl rfl ?_
      refine X_iret i_X10_cups_32 rfl ?_
      exact zap1 (by unfold w_cups sY_cups; repeat (first | omega | split)) (by omega) hS
set_option maxRecDepth 100000 in
theorem c_X10_rule {M N : zMem} {S K : zAft} (hA : zOk 999 (N 0)) (hS : zSv S) {v : Int} (h_v : zR v) (hb0 : 0 ≤ K 1 3) (hb8 : K 1 3 ≤ 8) : zCt kX10_rule 3 [.ref 38, .int (zii v)] ((zs (zs (zs M 14 S) 13 K) 3 (N 0))) (zAp (w_rule N v) (.int (zii (w_rule N v))) (.int (zii (a_rule N v))) (fun M9 => ∃ K9, zKb K (N 0) K9 ∧ M9 = (zs (zs (zs M 14 S) 13 K9) 3 (zwr (N 0) 6 2 v))) (zs (zs (zs M 14 S) 13 K) 3 (N 0))) := by
  have h6 := hA.1
  unfold zH at h6
  have hG := sG_le hA.1
  have b_v := h_v.1
  have c_v := h_v.2
  refine zMet (by decide) (Nat.le_of_ble_eq_true rfl) ?_
  show zX kX10_rule 3 0 [some (.ref 38), some (.int (zii v)), none] [] _ _
  refine Y_iload_1 i_X10_rule_0 ?_
  refine X_iconst i_X10_rule_1 ?_
  refine X_iconst i_X10_rule_2 ?_
  refine Y_callS (k' := kX10_isIn) i_X10_rule_3 l_X10_86 m_X10_isIn (c_X10_isIn ⟨by omega, by omega⟩ (zR_lit rfl) (zR_lit rfl)) rfl rfl rfl rfl ?_
  refine Y_ifq_ne i_X10_rule_6 (tgt := 16) rfl  (fun h6 => ?_) (fun h6 => ?_)
  · refine Y_aload_0 i_X10_rule_16 ?_
    refine Y_callVq (k' := kX10_keepsBack) i_X10_rule_17 l_X10_201 m_X10_keepsBack (c_X10_keepsBack hb0 hb8) rfl rfl rfl rfl rfl ?_
    intro r9 M9 hr9
    obtain ⟨rfl, K9, hk9, rfl⟩ := hr9
    refine X_tl0 ?_
    refine Y_aload_0 i_X10_rule_20 ?_
    refine Y_getI i_X10_rule_21 f_X10_124 rfl (zg0 _ _ _ _ _) ?_
    refine Y_istore_2 i_X10_rule_24 rfl rfl ?_
    refine Y_aload_0 i_X10_rule_25 ?_
    refine Y_iload_1 i_X10_rule_26 ?_
    refine Y_putI i_X10_rule_27 f_X10_124 rfl t_7_9 (zp0 _ _ _ _ _ _) ?_
    refine Y_iload_2 i_X10_rule_30 ?_
    refine X_iret i_X10_rule_31 rfl ?_
    exact zap0 (by unfold w_rule; (try rw [sFb2_e]); repeat (first | omega | split)) (zvi (rfl)) (⟨K9, hk9, rfl⟩)
  · refine Y_aload_0 i_X10_rule_9 ?_
    refine X_bipush i_X10_rule_10 (by decide +kernel) ?_
    refine Y_callV (k' := kX10_no) i_X10_rule_12 l_X10_75 m_X10_no (c_X10_no (by omega) (by omega)) rfl rfl rfl rfl rfl ?_
    refine X_iret i_X10_rule_15 rfl ?_
    exact zap1 (by unfold w_rule; (try rw [sFb2_e]); repeat (first | omega | split)) (by omega) hS
set_option maxRecDepth 100000 in
theorem c_X10_minutes {M N : zMem} {S K : zAft} (hA : zOk 999 (N 0)) (hS : zSv S) {n : Int} (h_n : zR n) : zCt kX10_minutes 5 [.ref 38, .int (zii n)] ((zs (zs (zs M 14 S) 13 K) 3 (N 0))) (zAp (w_minutes N n) (.int (zii (w_minutes N n))) (.int (zii (a_minutes N n))) (fun M9 => ∃ S9, zSv S9 ∧ M9 = (zs (zs (zs M 14 S9) 13 (zwr K 1 3 0)) 3 (sRun (N 0) n.toNat))) (zs (zs (zs M 14 S) 13 K) 3 (N 0))) := by
  have h6 := hA.1
  unfold zH at h6
  have hG := sG_le hA.1
  have b_n := h_n.1
  have c_n := h_n.2
  refine zMet (by decide) (Nat.le_of_ble_eq_true rfl) ?_
  show zX kX10_minutes 5 0 [some (.ref 38), some (.int (zii n)), none] [] _ _
  refine Y_iload_1 i_X10_minutes_0 ?_
  refine X_iconst i_X10_minutes_1 ?_
  refine X_bipush i_X10_minutes_2 (by decide +kernel) ?_
  refine Y_callS (k' := kX10_bound) i_X10_minutes_4 l_X10_68 m_X10_bound (c_X10_bound ⟨by omega, by omega⟩ (zR_lit rfl) (zR_lit rfl)) rfl rfl rfl rfl ?_
  refine Y_istore_2 i_X10_minutes_7 rfl rfl ?_
  refine Y_iload_2 i_X10_minutes_8 ?_
  refine Y_if_ne i_X10_minutes_9 (tgt := 27) rfl ⟨by omega, by omega⟩ (fun h9 => ?_) (fun h9 => ?_)
  · refine Y_iload_2 i_X10_minutes_27 ?_
    refine X_if_eq i_X10_minutes_28 (tgt := 37) rfl ⟨by omega, by omega⟩ (fun h28 => ?_) (fun h28 => ?_)
    · refine Y_aload_0 i_X10_minutes_37 ?_
      obtain ⟨t, rfl⟩ : ∃ t : Nat, n = t := ⟨n.toNat, by omega⟩
      refine X_iconst i_X10_minutes_38 ?_
      refine Y_putI i_X10_minutes_39 f_X10_144 rfl t_7_23 (zp1 rfl (zp0 _ _ _ _ _ _)) ?_
      refine Y_aload_0 i_X10_minutes_42 ?_
      refine Y_iload_1 i_X10_minutes_43 ?_
      refine Y_callVv (k' := kX10_goes) i_X10_minutes_44 l_X10_107 m_X10_goes (c_X10_goes hA hS (by omega) (by omega)) rfl rfl rfl rfl rfl ?_
      refine Y_aload_0 i_X10_minutes_47 ?_
      refine X_iconst i_X10_minutes_48 ?_
      refine Y_callV (k' := kX10_manyIn) i_X10_minutes_49 l_X10_101 m_X10_manyIn (c_X10_manyIn (zs_self _ _ _) (sRun_ok hA t) (zR_lit rfl)) rfl rfl rfl rfl rfl ?_
      refine X_iret i_X10_minutes_52 rfl ?_
      exact zap0 (by unfold w_minutes sY_pass; repeat (first | omega | split)) (zvi (by unfold a_minutes; rfl)) (⟨_, sRS_in _ hS t, rfl⟩)
    · refine Y_aload_0 i_X10_minutes_31 ?_
      refine Y_iload_2 i_X10_minutes_32 ?_
      refine Y_callV (k' := kX10_no) i_X10_minutes_33 l_X10_75 m_X10_no (c_X10_no (by omega) (by omega)) rfl rfl rfl rfl rfl ?_
      refine X_iret i_X10_minutes_36 rfl ?_
      exact zap1 (by unfold w_minutes sY_pass; repeat (first | omega | split)) (by omega) hS
  · refine Y_aload_0 i_X10_minutes_12 ?_
    refine Y_getI i_X10_minutes_13 f_X10_104 rfl (zg0 _ _ _ _ _) ?_
    refine Y_iload_1 i_X10_minutes_16 ?_
    refine X_iadd i_X10_minutes_17 ?_
    refine X_sipush i_X10_minutes_18 (by decide +kernel) ?_
    refine X_icmp_le i_X10_minutes_21 (tgt := 27) rfl ⟨by omega, by omega⟩ ⟨by omega, by omega⟩ (fun h21 => ?_) (fun h21 => ?_)
    · refine Y_iload_2 i_X10_minutes_27 ?_
      refine X_if_eq i_X10_minutes_28 (tgt := 37) rfl ⟨by omega, by omega⟩ (fun h28 => ?_) (fun h28 => ?_)
      · refine Y_aload_0 i_X10_minutes_37 ?_
        obtain ⟨t, rfl⟩ : ∃ t : Nat, n = t := ⟨n.toNat, by omega⟩
        refine X_iconst i_X10_minutes_38 ?_
        refine Y_putI i_X10_minutes_39 f_X10_144 rfl t_7_23 (zp1 rfl (zp0 _ _ _ _ _ _)) ?_
        refine Y_aload_0 i_X10_minutes_42 ?_
        refine Y_iload_1 i_X10_minutes_43 ?_
        refine Y_callVv (k' := kX10_goes) i_X10_minutes_44 l_X10_107 m_X10_goes (c_X10_goes hA hS (by omega) (by omega)) rfl rfl rfl rfl rfl ?_
        refine Y_aload_0 i_X10_minutes_47 ?_
        refine X_iconst i_X10_minutes_48 ?_
        refine Y_callV (k' := kX10_manyIn) i_X10_minutes_49 l_X10_101 m_X10_manyIn (c_X10_manyIn (zs_self _ _ _) (sRun_ok hA t) (zR_lit rfl)) rfl rfl rfl rfl rfl ?_
        refine X_iret i_X10_minutes_52 rfl ?_
        exact zap0 (by unfold w_minutes sY_pass; repeat (first | omega | split)) (zvi (by unfold a_minutes; rfl)) (⟨_, sRS_in _ hS t, rfl⟩)
      · refine Y_aload_0 i_X10_minutes_31 ?_
        refine Y_iload_2 i_X10_minutes_32 ?_
        refine Y_callV (k' := kX10_no) i_X10_minutes_33 l_X10_75 m_X10_no (c_X10_no (by omega) (by omega)) rfl rfl rfl rfl rfl ?_
        refine X_iret i_X10_minutes_36 rfl ?_
        exact zap1 (by unfold w_minutes sY_pass; repeat (first | omega | split)) (by omega) hS
    · refine X_bipush i_X10_minutes_24 (by decide +kernel) ?_
      refine Y_istore_2 i_X10_minutes_26 rfl rfl ?_
      refine Y_iload_2 i_X10_minutes_27 ?_
      refine X_if_eq i_X10_minutes_28 (tgt := 37) rfl ⟨by omega, by omega⟩ (fun h28 => by exfalso; omega) (fun h28 => ?_)
      refine Y_aload_0 i_X10_minutes_31 ?_
      refine Y_iload_2 i_X10_minutes_32 ?_
      refine Y_callV (k' := kX10_no) i_X10_minutes_33 l_X10_75 m_X10_no (c_X10_no (by omega) (by omega)) rfl rfl rfl rfl rfl ?_
      refine X_iret i_X10_minutes_36 rfl ?_
      exact zap1 (by unfold w_minutes sY_pass; repeat (first | omega | split)) (by omega) hS
set_option maxRecDepth 100000 in
theorem c_X10_image {M N : zMem} {S K : zAft} (hA : zOk 999 (N 0)) (hS : zSv S) : zCt kX10_image 2 [.ref 38] ((zs (zs (zs M 14 S) 13 K) 3 (N 0))) (zAp (w_image N) (.int (zii (w_image N))) (.int (zii (a_image N))) (fun M9 => ∃ K9, (zKp K9 0 (N 0) ∧ (∀ i : Int, 42 ≤ i → K9 0 i = K 0 i) ∧ K9 1 0 = 1 ∧ K9 1 3 = K 1 3) ∧ M9 = (zs (zs (zs M 14 S) 13 K9) 3 (N 0))) (zs (zs (zs M 14 S) 13 K) 3 (N 0))) := by
  have h6 := hA.1
  unfold zH at h6
  have hG := sG_le hA.1
  refine zMet (by decide) (Nat.le_of_ble_eq_true rfl) ?_
  show zX kX10_image 2 0 [some (.ref 38)] [] _ _
  refine Y_aload_0 i_X10_image_0 ?_
  refine X_iconst i_X10_image_1 ?_
  refine Y_putZ i_X10_image_2 f_X10_164 rfl t_7_20 (by omega) (zp1 rfl (zp0 _ _ _ _ _ _)) ?_
  refine Y_aload_0 i_X10_image_5 ?_
  refine X_iconst i_X10_image_6 ?_
  refine X_iconst i_X10_image_7 ?_
  refine Y_callVq (k' := kX10_passesAll) i_X10_image_8 l_X10_137 m_X10_passesAll (c_X10_keepAll (w := 0) (by omega) (by omega)) rfl rfl rfl rfl rfl ?_
  intro r9 M9 hr9
  obtain ⟨rfl, K2, hk2, rfl⟩ := hr9
  refine X_tl0 ?_
  refine Y_aload_0 i_X10_image_11 ?_
  refine Y_getI i_X10_image_12 f_X10_104 rfl (zg0 _ _ _ _ _) ?_
  refine X_iret i_X10_image_15 rfl ?_
  exact zap0 (by unfold w_image; (try rw [sFb2_e]); repeat (first | omega | split)) (zvi (rfl)) (⟨K2, ⟨hk2.1, fun i hi => by rw [hk2.2.1 i (by omega), zwr_r (by decide)], by rw [hk2.2.2.1, zr0], by rw [hk2.2.2.2, zr2 (by decide) rfl]⟩, rfl⟩)
set_option maxRecDepth 100000 in
theorem c_X10_restore {M N : zMem} {S K : zAft} (hA : zOk 999 (N 0)) (hS : zSv S) (hi : K 1 0 = N 9 1 0) (hi2 : 0 ≤ N 9 1 0 ∧ N 9 1 0 ≤ 1) (hk : N 9 1 0 = 1 → zKp K 0 (N 2)) : zCt kX10_restore 2 [.ref 38] ((zs (zs (zs M 14 S) 13 K) 3 (N 0))) (zAp (w_restore N) (.int (zii (w_restore N))) (.int (zii (a_restore N))) (fun M9 => ∃ K9, (K9 0 = K 0 ∧ K9 1 0 = K 1 0 ∧ K9 1 3 = 0) ∧ M9 = (zs (zs (zs M 14 S) 13 K9) 3 (N 2))) (zs (zs (zs M 14 S) 13 K) 3 (N 0))) := by
  have h6 := hA.1
  unfold zH at h6
  have hG := sG_le hA.1
  refine zMet (by decide) (Nat.le_of_ble_eq_true rfl) ?_
  show zX kX10_restore 2 0 [some (.ref 38)] [] _ _
  refine Y_aload_0 i_X10_restore_0 ?_
  refine Y_getI i_X10_restore_1 f_X10_164 rfl (zg1 rfl (zg0 _ _ _ _ _)) ?_
  refine Y_if_ne i_X10_restore_4 (tgt := 14) rfl ⟨by omega, by omega⟩ (fun h4 => ?_) (fun h4 => ?_)
  · refine Y_aload_0 i_X10_restore_14 ?_
    refine X_iconst i_X10_restore_15 ?_
    refine X_iconst i_X10_restore_16 ?_
    refine Y_callVq (k' := kX10_passesAll) i_X10_restore_17 l_X10_137 m_X10_passesAll (c_X10_getAll (w := 0) (by omega) (by omega) (hk (by omega))) rfl rfl rfl rfl rfl ?_
    intro r9 M9 hr9
    obtain ⟨rfl, K2, hk2, rfl⟩ := hr9
    refine X_tl0 ?_
    refine Y_aload_0 i_X10_restore_20 ?_
    refine X_iconst i_X10_restore_21 ?_
    refine Y_putI i_X10_restore_22 f_X10_144 rfl t_7_23 (zp1 rfl (zp0 _ _ _ _ _ _)) ?_
    refine Y_aload_0 i_X10_restore_25 ?_
    refine Y_getI i_X10_restore_26 f_X10_104 rfl (zg0 _ _ _ _ _) ?_
    refine X_iret i_X10_restore_29 rfl ?_
    exact zap0 (by unfold w_restore; (try rw [sFb2_e]); repeat (first | omega | split)) (zvi (rfl)) (⟨_, ⟨by rw [zwr_row rfl]; exact hk2.1, by rw [zr2 (by decide) rfl]; exact hk2.2.1, by rw [zr0]⟩, rfl⟩)
  · refine Y_aload_0 i_X10_restore_7 ?_
    refine X_bipush i_X10_restore_8 (by decide +kernel) ?_
    refine Y_callV (k' := kX10_no) i_X10_restore_10 l_X10_75 m_X10_no (c_X10_no (by omega) (by omega)) rfl rfl rfl rfl rfl ?_
    refine X_iret i_X10_restore_13 rfl ?_
    exact zap1 (by unfold w_restore; (try rw [sFb2_e]); repeat (first | omega | split)) (by omega) hS
set_option maxRecDepth 100000 in
theorem c_X10_back {M N : zMem} {S K : zAft} (hA : zOk 999 (N 0)) (hS : zSv S) {B : zAft} (hd : K 1 3 = N 6 5 1) (hb0 : 0 ≤ K 1 3) (hb8 : K 1 3 ≤ 8) (hk : 0 < K 1 3 → zKp K (3 + (K 1 3 - 1)) B) : zCt kX10_back 2 [.ref 38] ((zs (zs (zs M 14 S) 13 K) 3 (N 0))) (zAp (w_back N) (.int (zii (w_back N))) (.int (zii (a_back N))) (fun M9 => ∃ K9, (K9 0 = K 0 ∧ K9 1 0 = K 1 0 ∧ K9 1 3 = K 1 3 - 1) ∧ M9 = (zs (zs (zs M 14 S) 13 K9) 3 B)) (zs (zs (zs M 14 S) 13 K) 3 (N 0))) := by
  have h6 := hA.1
  unfold zH at h6
  have hG := sG_le hA.1
  refine zMet (by decide) (Nat.le_of_ble_eq_true rfl) ?_
  show zX kX10_back 2 0 [some (.ref 38)] [] _ _
  refine Y_aload_0 i_X10_back_0 ?_
  refine Y_getI i_X10_back_1 f_X10_144 rfl (zg1 rfl (zg0 _ _ _ _ _)) ?_
  refine Y_if_ne i_X10_back_4 (tgt := 14) rfl ⟨by omega, by omega⟩ (fun h4 => ?_) (fun h4 => ?_)
  · refine Y_aload_0 i_X10_back_14 ?_
    refine X_dup i_X10_back_15 rfl ?_
    refine Y_getI i_X10_back_16 f_X10_144 rfl (zg1 rfl (zg0 _ _ _ _ _)) ?_
    refine X_iconst i_X10_back_19 ?_
    refine X_isub i_X10_back_20 ?_
    refine Y_putI i_X10_back_21 f_X10_144 rfl t_7_23 (zp1 rfl (zp0 _ _ _ _ _ _)) ?_
    refine Y_aload_0 i_X10_back_24 ?_
    refine X_iconst i_X10_back_25 ?_
    refine Y_aload_0 i_X10_back_26 ?_
    refine Y_getI i_X10_back_27 f_X10_144 rfl (zg1 rfl (zga zr0)) ?_
    refine X_iadd i_X10_back_30 ?_
    refine X_iconst i_X10_back_31 ?_
    refine Y_callVq (k' := kX10_passesAll) i_X10_back_32 l_X10_137 m_X10_passesAll (c_X10_getAll (w := 3 + (K 1 3 - 1)) (by omega) (by omega) (zKp_w (hk (by omega)))) rfl rfl rfl rfl rfl ?_
    intro r9 M9 hr9
    obtain ⟨rfl, K2, hk2, rfl⟩ := hr9
    refine X_tl0 ?_
    refine Y_aload_0 i_X10_back_35 ?_
    refine Y_getI i_X10_back_36 f_X10_144 rfl (zg1 rfl (zg0 _ _ _ _ _)) ?_
    refine X_iret i_X10_back_39 rfl ?_
    exact zap0 (by unfold w_back; (try rw [sFb2_e]); repeat (first | omega | split)) (zvi (by unfold a_back; rw [hk2.2.2, zr0, hd])) (⟨K2, ⟨by rw [hk2.1, zwr_row rfl], by rw [hk2.2.1, zr2 (by decide) rfl], by rw [hk2.2.2, zr0]⟩, rfl⟩)
  · refine Y_aload_0 i_X10_back_7 ?_
    refine X_bipush i_X10_back_8 (by decide +kernel) ?_
    refine Y_callV (k' := kX10_no) i_X10_back_10 l_X10_75 m_X10_no (c_X10_no (by omega) (by omega)) rfl rfl rfl rfl rfl ?_
    refine X_iret i_X10_back_13 rfl ?_
    exact zap1 (by unfold w_back; (try rw [sFb2_e]); repeat (first | omega | split)) (by omega) hS
set_option maxRecDepth 100000 in
theorem c_X10_row {M N : zMem} {S K : zAft} (hA : zOk 999 (N 0)) (hS : zSv S) {v : Int} (h_v : zR v) (hT : 0 ≤ N 5 1 0 ∧ N 5 1 0 ≤ 12) : zCt kX10_row 1 [.ref 38, .int (zii v)] ((zs (zs (zs (zs M 15 (N 5)) 14 S) 13 K) 3 (N 0))) (zAp (w_row N v) (.int (zii (w_row N v))) (.int (zii (a_row N v))) (fun M9 => M9 = (zs (zs (zs (zs M 15 (zwr (zwr (N 5) 0 (N 5 1 0) v) 1 0 (N 5 1 0 + 1))) 14 S) 13 K) 3 (N 0))) (zs (zs (zs (zs M 15 (N 5)) 14 S) 13 K) 3 (N 0))) := by
  have h6 := hA.1
  unfold zH at h6
  have hG := sG_le hA.1
  have b_v := h_v.1
  have c_v := h_v.2
  refine zMet (by decide) (Nat.le_of_ble_eq_true rfl) ?_
  show zX kX10_row 1 0 [some (.ref 38), some (.int (zii v)), none] [] _ _
  refine Y_iload_1 i_X10_row_0 ?_
  refine X_iconst i_X10_row_1 ?_
  refine X_bipush i_X10_row_2 (by decide +kernel) ?_
  refine Y_callS (k' := kX10_bound) i_X10_row_4 l_X10_68 m_X10_bound (c_X10_bound ⟨by omega, by omega⟩ (zR_lit rfl) (zR_lit rfl)) rfl rfl rfl rfl ?_
  refine Y_istore_2 i_X10_row_7 rfl rfl ?_
  refine Y_iload_2 i_X10_row_8 ?_
  refine Y_if_ne i_X10_row_9 (tgt := 24) rfl ⟨by omega, by omega⟩ (fun h9 => ?_) (fun h9 => ?_)
  · refine Y_iload_2 i_X10_row_24 ?_
    refine X_if_eq i_X10_row_25 (tgt := 34) rfl ⟨by omega, by omega⟩ (fun h25 => ?_) (fun h25 => ?_)
    · refine Y_aload_0 i_X10_row_34 ?_
      refine X_getR i_X10_row_35 f_X10_49 rfl ?_
      refine Y_aload_0 i_X10_row_38 ?_
      refine Y_getI i_X10_row_39 f_X10_256 rfl (zg1 rfl (zg1 rfl (zg1 rfl (zg0 _ _ _ _ _)))) ?_
      refine Y_iload_1 i_X10_row_42 ?_
      refine Y_iast i_X10_row_43 rfl ⟨by omega, by omega⟩ rfl (zp1 rfl (zp1 rfl (zp1 rfl (zp0 _ _ _ _ _ _)))) ?_
      refine Y_aload_0 i_X10_row_44 ?_
      refine X_dup i_X10_row_45 rfl ?_
      refine Y_getI i_X10_row_46 f_X10_256 rfl (zg1 rfl (zg1 rfl (zg1 rfl (zga (zr1 rfl rfl))))) ?_
      refine X_iconst i_X10_row_49 ?_
      refine X_iadd i_X10_row_50 ?_
      refine Y_putI i_X10_row_51 f_X10_256 rfl t_7_27 (zp1 rfl (zp1 rfl (zp1 rfl (zp0 _ _ _ _ _ _)))) ?_
      refine Y_aload_0 i_X10_row_54 ?_
      refine Y_getI i_X10_row_55 f_X10_256 rfl (zg1 rfl (zg1 rfl (zg1 rfl (zga zr0)))) ?_
      refine X_iret i_X10_row_58 rfl ?_
      exact zap0 (by unfold w_row; (try rw [sFb2_e]); repeat (first | omega | split)) (zvi (rfl)) (rfl)
    · refine Y_aload_0 i_X10_row_28 ?_
      refine Y_iload_2 i_X10_row_29 ?_
      refine Y_callV (k' := kX10_no) i_X10_row_30 l_X10_75 m_X10_no (c_X10_no (by omega) (by omega)) rfl rfl rfl rfl rfl ?_
      refine X_iret i_X10_row_33 rfl ?_
      exact zap1 (by unfold w_row; (try rw [sFb2_e]); repeat (first | omega | split)) (by omega) hS
  · refine Y_aload_0 i_X10_row_12 ?_
    refine Y_getI i_X10_row_13 f_X10_256 rfl (zg1 rfl (zg1 rfl (zg1 rfl (zg0 _ _ _ _ _)))) ?_
    refine X_bipush i_X10_row_16 (by decide +kernel) ?_
    refine Y_icmp_ne i_X10_row_18 (tgt := 24) rfl ⟨by omega, by omega⟩ ⟨by omega, by omega⟩ (fun h18 => ?_) (fun h18 => ?_)
    · refine Y_iload_2 i_X10_row_24 ?_
      refine X_if_eq i_X10_row_25 (tgt := 34) rfl ⟨by omega, by omega⟩ (fun h25 => ?_) (fun h25 => ?_)
      · refine Y_aload_0 i_X10_row_34 ?_
        refine X_getR i_X10_row_35 f_X10_49 rfl ?_
        refine Y_aload_0 i_X10_row_38 ?_
        refine Y_getI i_X10_row_39 f_X10_256 rfl (zg1 rfl (zg1 rfl (zg1 rfl (zg0 _ _ _ _ _)))) ?_
        refine Y_iload_1 i_X10_row_42 ?_
        refine Y_iast i_X10_row_43 rfl ⟨by omega, by omega⟩ rfl (zp1 rfl (zp1 rfl (zp1 rfl (zp0 _ _ _ _ _ _)))) ?_
        refine Y_aload_0 i_X10_row_44 ?_
        refine X_dup i_X10_row_45 rfl ?_
        refine Y_getI i_X10_row_46 f_X10_256 rfl (zg1 rfl (zg1 rfl (zg1 rfl (zga (zr1 rfl rfl))))) ?_
        refine X_iconst i_X10_row_49 ?_
        refine X_iadd i_X10_row_50 ?_
        refine Y_putI i_X10_row_51 f_X10_256 rfl t_7_27 (zp1 rfl (zp1 rfl (zp1 rfl (zp0 _ _ _ _ _ _)))) ?_
        refine Y_aload_0 i_X10_row_54 ?_
        refine Y_getI i_X10_row_55 f_X10_256 rfl (zg1 rfl (zg1 rfl (zg1 rfl (zga zr0)))) ?_
        refine X_iret i_X10_row_58 rfl ?_
        exact zap0 (by unfold w_row; (try rw [sFb2_e]); repeat (first | omega | split)) (zvi (rfl)) (rfl)
      · refine Y_aload_0 i_X10_row_28 ?_
        refine Y_iload_2 i_X10_row_29 ?_
        refine Y_callV (k' := kX10_no) i_X10_row_30 l_X10_75 m_X10_no (c_X10_no (by omega) (by omega)) rfl rfl rfl rfl rfl ?_
        refine X_iret i_X10_row_33 rfl ?_
        exact zap1 (by unfold w_row; (try rw [sFb2_e]); repeat (first | omega | split)) (by omega) hS
    · refine X_bipush i_X10_row_21 (by decide +kernel) ?_
      refine Y_istore_2 i_X10_row_23 rfl rfl ?_
      refine Y_iload_2 i_X10_row_24 ?_
      refine X_if_eq i_X10_row_25 (tgt := 34) rfl ⟨by omega, by omega⟩ (fun h25 => by exfalso; omega) (fun h25 => ?_)
      refine Y_aload_0 i_X10_row_28 ?_
      refine Y_iload_2 i_X10_row_29 ?_
      refine Y_callV (k' := kX10_no) i_X10_row_30 l_X10_75 m_X10_no (c_X10_no (by omega) (by omega)) rfl rfl rfl rfl rfl ?_
      refine X_iret i_X10_row_33 rfl ?_
      exact zap1 (by unfold w_row; (try rw [sFb2_e]); repeat (first | omega | split)) (by omega) hS
set_option maxRecDepth 100000 in
theorem c_X10_clear {M N : zMem} {S K : zAft} (hA : zOk 999 (N 0)) (hS : zSv S) : zCt kX10_clear 0 [.ref 38] ((zs (zs (zs (zs M 15 (N 5)) 14 S) 13 K) 3 (N 0))) (zAp (w_clear N) (.int (zii (w_clear N))) (.int (zii (a_clear N))) (fun M9 => M9 = (zs (zs (zs (zs M 15 (zwr (N 5) 1 0 0)) 14 S) 13 K) 3 (N 0))) (zs (zs (zs (zs M 15 (N 5)) 14 S) 13 K) 3 (N 0))) := by
  have h6 := hA.1
  unfold zH at h6
  have hG := sG_le hA.1
  refine zMet (by decide) (Nat.le_of_ble_eq_true rfl) ?_
  show zX kX10_clear 0 0 [some (.ref 38), none] [] _ _
  refine Y_aload_0 i_X10_clear_0 ?_
  refine Y_getI i_X10_clear_1 f_X10_256 rfl (zg1 rfl (zg1 rfl (zg1 rfl (zg0 _ _ _ _ _)))) ?_
  refine Y_istore_1 i_X10_clear_4 rfl rfl ?_
  refine Y_aload_0 i_X10_clear_5 ?_
  refine X_iconst i_X10_clear_6 ?_
  refine Y_putI i_X10_clear_7 f_X10_256 rfl t_7_27 (zp1 rfl (zp1 rfl (zp1 rfl (zp0 _ _ _ _ _ _)))) ?_
  refine Y_iload_1 i_X10_clear_10 ?_
  refine X_iret i_X10_clear_11 rfl ?_
  exact zap0 (by unfold w_clear; (try rw [sFb2_e]); repeat (first | omega | split)) (zvi (rfl)) (rfl)
set_option maxRecDepth 100000 in
theorem c_X10_feed {M N : zMem} {S K : zAft} (hA : zOk 999 (N 0)) (hS : zSv S) {v : Int} (h_v : zR v) (hL : 0 ≤ N 4 1 0 ∧ N 4 1 0 ≤ 96) : zCt kX10_feed 1 [.ref 38, .int (zii v)] ((zs (zs (zs (zs M 11 (N 4)) 14 S) 13 K) 3 (N 0))) (zAp (w_feed N v) (.int (zii (w_feed N v))) (.int (zii (a_feed N v))) (fun M9 => M9 = (zs (zs (zs (zs M 11 (zwr (zwr (N 4) 0 (N 4 1 0) v) 1 0 (N 4 1 0 + 1))) 14 S) 13 K) 3 (N 0))) (zs (zs (zs (zs M 11 (N 4)) 14 S) 13 K) 3 (N 0))) := by
  have h6 := hA.1
  unfold zH at h6
  have hG := sG_le hA.1
  have b_v := h_v.1
  have c_v := h_v.2
  refine zMet (by decide) (Nat.le_of_ble_eq_true rfl) ?_
  show zX kX10_feed 1 0 [some (.ref 38), some (.int (zii v)), none] [] _ _
  refine Y_iload_1 i_X10_feed_0 ?_
  refine X_iconst i_X10_feed_1 ?_
  refine X_sipush i_X10_feed_2 (by decide +kernel) ?_
  refine Y_callS (k' := kX10_bound) i_X10_feed_5 l_X10_68 m_X10_bound (c_X10_bound ⟨by omega, by omega⟩ (zR_lit rfl) (zR_lit rfl)) rfl rfl rfl rfl ?_
  refine Y_istore_2 i_X10_feed_8 rfl rfl ?_
  refine Y_iload_2 i_X10_feed_9 ?_
  refine Y_if_ne i_X10_feed_10 (tgt := 25) rfl ⟨by omega, by omega⟩ (fun h10 => ?_) (fun h10 => ?_)
  · refine Y_iload_2 i_X10_feed_25 ?_
    refine X_if_eq i_X10_feed_26 (tgt := 35) rfl ⟨by omega, by omega⟩ (fun h26 => ?_) (fun h26 => ?_)
    · refine Y_aload_0 i_X10_feed_35 ?_
      refine X_getR i_X10_feed_36 f_X10_31 rfl ?_
      refine Y_aload_0 i_X10_feed_39 ?_
      refine Y_getI i_X10_feed_40 f_X10_72 rfl (zg1 rfl (zg1 rfl (zg1 rfl (zg0 _ _ _ _ _)))) ?_
      refine Y_iload_1 i_X10_feed_43 ?_
      refine Y_iast i_X10_feed_44 rfl ⟨by omega, by omega⟩ rfl (zp1 rfl (zp1 rfl (zp1 rfl (zp0 _ _ _ _ _ _)))) ?_
      refine Y_aload_0 i_X10_feed_45 ?_
      refine X_dup i_X10_feed_46 rfl ?_
      refine Y_getI i_X10_feed_47 f_X10_72 rfl (zg1 rfl (zg1 rfl (zg1 rfl (zga (zr1 rfl rfl))))) ?_
      refine X_iconst i_X10_feed_50 ?_
      refine X_iadd i_X10_feed_51 ?_
      refine Y_putI i_X10_feed_52 f_X10_72 rfl t_7_16 (zp1 rfl (zp1 rfl (zp1 rfl (zp0 _ _ _ _ _ _)))) ?_
      refine Y_aload_0 i_X10_feed_55 ?_
      refine Y_getI i_X10_feed_56 f_X10_72 rfl (zg1 rfl (zg1 rfl (zg1 rfl (zga zr0)))) ?_
      refine X_iret i_X10_feed_59 rfl ?_
      exact zap0 (by unfold w_feed; (try rw [sFb2_e]); repeat (first | omega | split)) (zvi (rfl)) (rfl)
    · refine Y_aload_0 i_X10_feed_29 ?_
      refine Y_iload_2 i_X10_feed_30 ?_
      refine Y_callV (k' := kX10_no) i_X10_feed_31 l_X10_75 m_X10_no (c_X10_no (by omega) (by omega)) rfl rfl rfl rfl rfl ?_
      refine X_iret i_X10_feed_34 rfl ?_
      exact zap1 (by unfold w_feed; (try rw [sFb2_e]); repeat (first | omega | split)) (by omega) hS
  · refine Y_aload_0 i_X10_feed_13 ?_
    refine Y_getI i_X10_feed_14 f_X10_72 rfl (zg1 rfl (zg1 rfl (zg1 rfl (zg0 _ _ _ _ _)))) ?_
    refine X_bipush i_X10_feed_17 (by decide +kernel) ?_
    refine Y_icmp_ne i_X10_feed_19 (tgt := 25) rfl ⟨by omega, by omega⟩ ⟨by omega, by omega⟩ (fun h19 => ?_) (fun h19 => ?_)
    · refine Y_iload_2 i_X10_feed_25 ?_
      refine X_if_eq i_X10_feed_26 (tgt := 35) rfl ⟨by omega, by omega⟩ (fun h26 => ?_) (fun h26 => ?_)
      · refine Y_aload_0 i_X10_feed_35 ?_
        refine X_getR i_X10_feed_36 f_X10_31 rfl ?_
        refine Y_aload_0 i_X10_feed_39 ?_
        refine Y_getI i_X10_feed_40 f_X10_72 rfl (zg1 rfl (zg1 rfl (zg1 rfl (zg0 _ _ _ _ _)))) ?_
        refine Y_iload_1 i_X10_feed_43 ?_
        refine Y_iast i_X10_feed_44 rfl ⟨by omega, by omega⟩ rfl (zp1 rfl (zp1 rfl (zp1 rfl (zp0 _ _ _ _ _ _)))) ?_
        refine Y_aload_0 i_X10_feed_45 ?_
        refine X_dup i_X10_feed_46 rfl ?_
        refine Y_getI i_X10_feed_47 f_X10_72 rfl (zg1 rfl (zg1 rfl (zg1 rfl (zga (zr1 rfl rfl))))) ?_
        refine X_iconst i_X10_feed_50 ?_
        refine X_iadd i_X10_feed_51 ?_
        refine Y_putI i_X10_feed_52 f_X10_72 rfl t_7_16 (zp1 rfl (zp1 rfl (zp1 rfl (zp0 _ _ _ _ _ _)))) ?_
        refine Y_aload_0 i_X10_feed_55 ?_
        refine Y_getI i_X10_feed_56 f_X10_72 rfl (zg1 rfl (zg1 rfl (zg1 rfl (zga zr0)))) ?_
        refine X_iret i_X10_feed_59 rfl ?_
        exact zap0 (by unfold w_feed; (try rw [sFb2_e]); repeat (first | omega | split)) (zvi (rfl)) (rfl)
      · refine Y_aload_0 i_X10_feed_29 ?_
        refine Y_iload_2 i_X10_feed_30 ?_
        refine Y_callV (k' := kX10_no) i_X10_feed_31 l_X10_75 m_X10_no (c_X10_no (by omega) (by omega)) rfl rfl rfl rfl rfl ?_
        refine X_iret i_X10_feed_34 rfl ?_
        exact zap1 (by unfold w_feed; (try rw [sFb2_e]); repeat (first | omega | split)) (by omega) hS
    · refine X_bipush i_X10_feed_22 (by decide +kernel) ?_
      refine Y_istore_2 i_X10_feed_24 rfl rfl ?_
      refine Y_iload_2 i_X10_feed_25 ?_
      refine X_if_eq i_X10_feed_26 (tgt := 35) rfl ⟨by omega, by omega⟩ (fun h26 => by exfalso; omega) (fun h26 => ?_)
      refine Y_aload_0 i_X10_feed_29 ?_
      refine Y_iload_2 i_X10_feed_30 ?_
      refine Y_callV (k' := kX10_no) i_X10_feed_31 l_X10_75 m_X10_no (c_X10_no (by omega) (by omega)) rfl rfl rfl rfl rfl ?_
      refine X_iret i_X10_feed_34 rfl ?_
      exact zap1 (by unfold w_feed; (try rw [sFb2_e]); repeat (first | omega | split)) (by omega) hS
set_option maxRecDepth 100000 in
theorem c_X10_count {M N : zMem} {S K : zAft} (hA : zOk 999 (N 0)) (hS : zSv S) {w : Int} (h_w : zR w) (h11 : M 11 = N 4) (h15 : M 15 = N 5) (hb : K 1 3 = N 6 5 1) (h10 : ∀ i : Int, 0 ≤ i → i < 6 → M 10 0 (i + 1) = N 9 0 i) : zCt kX10_count 1 [.ref 38, .int (zii w)] ((zs (zs (zs M 14 S) 13 K) 3 (N 0))) (zAp (w_count N w) (.int (zii (w_count N w))) (.int (zii (a_count N w))) (fun M9 => M9 = (zs (zs (zs M 14 S) 13 K) 3 (N 0))) (zs (zs (zs M 14 S) 13 K) 3 (N 0))) := by
  have h6 := hA.1
  unfold zH at h6
  have hG := sG_le hA.1
  have b_w := h_w.1
  have c_w := h_w.2
  refine zMet (by decide) (Nat.le_of_ble_eq_true rfl) ?_
  show zX kX10_count 1 0 [some (.ref 38), some (.int (zii w))] [] _ _
  refine Y_iload_1 i_X10_count_0 ?_
  refine X_bipush i_X10_count_1 (by decide +kernel) ?_
  refine X_bipush i_X10_count_3 (by decide +kernel) ?_
  refine Y_callS (k' := kX10_isIn) i_X10_count_5 l_X10_86 m_X10_isIn (c_X10_isIn ⟨by omega, by omega⟩ (zR_lit rfl) (zR_lit rfl)) rfl rfl rfl rfl ?_
  refine Y_ifq_eq i_X10_count_8 (tgt := 21) rfl  (fun h8 => ?_) (fun h8 => ?_)
  · refine Y_iload_1 i_X10_count_21 ?_
    rcases (by omega : w = 0 ∨ w = 1 ∨ w = 2 ∨ w = 3 ∨ w = 4 ∨ w = 5 ∨ w = 6 ∨ w = 7 ∨ w = 8 ∨ w = 9 ∨ w = 10 ∨ w = 17 ∨ (w < 0 ∨ 17 < w) ∨ (11 ≤ w ∧ w ≤ 16)) with hsw | hsw | hsw | hsw | hsw | hsw | hsw | hsw | hsw | hsw | hsw | hsw | hsw | hsw
    · refine X_tabIn i_X10_count_22 ⟨by omega, by omega⟩ (by omega) (by omega) (off := 86) (by rw [hsw]; rfl) (tgt := 108) rfl ?_
      refine Y_aload_0 i_X10_count_108 ?_
      refine Y_getI i_X10_count_109 f_X10_65 rfl (zg0 _ _ _ _ _) ?_
      refine X_iret i_X10_count_112 rfl ?_
      exact zap0 (by unfold w_count; (try rw [sFb2_e]); repeat (first | omega | split)) (zvi (by unfold a_count; rw [if_neg (by omega), if_neg (by omega), if_pos hsw])) (rfl)
    · refine X_tabIn i_X10_count_22 ⟨by omega, by omega⟩ (by omega) (by omega) (off := 91) (by rw [hsw]; rfl) (tgt := 113) rfl ?_
      refine Y_aload_0 i_X10_count_113 ?_
      refine Y_getI i_X10_count_114 f_X10_104 rfl (zg0 _ _ _ _ _) ?_
      refine X_iret i_X10_count_117 rfl ?_
      exact zap0 (by unfold w_count; (try rw [sFb2_e]); repeat (first | omega | split)) (zvi (by unfold a_count; rw [if_neg (by omega), if_neg (by omega), if_neg (by omega), if_pos hsw])) (rfl)
    · refine X_tabIn i_X10_count_22 ⟨by omega, by omega⟩ (by omega) (by omega) (off := 96) (by rw [hsw]; rfl) (tgt := 118) rfl ?_
      refine Y_aload_0 i_X10_count_118 ?_
      refine Y_getI i_X10_count_119 f_X10_58 rfl (zg0 _ _ _ _ _) ?_
      refine X_iret i_X10_count_122 rfl ?_
      exact zap0 (by unfold w_count; (try rw [sFb2_e]); repeat (first | omega | split)) (zvi (by unfold a_count; rw [if_neg (by omega), if_neg (by omega), if_neg (by omega), if_neg (by omega), if_pos hsw])) (rfl)
    · refine X_tabIn i_X10_count_22 ⟨by omega, by omega⟩ (by omega) (by omega) (off := 101) (by rw [hsw]; rfl) (tgt := 123) rfl ?_
      refine Y_aload_0 i_X10_count_123 ?_
      refine Y_getI i_X10_count_124 f_X10_124 rfl (zg0 _ _ _ _ _) ?_
      refine X_iret i_X10_count_127 rfl ?_
      exact zap0 (by unfold w_count; (try rw [sFb2_e]); repeat (first | omega | split)) (zvi (by unfold a_count; rw [if_neg (by omega), if_neg (by omega), if_neg (by omega), if_neg (by omega), if_neg (by omega), if_pos hsw])) (rfl)
    · refine X_tabIn i_X10_count_22 ⟨by omega, by omega⟩ (by omega) (by omega) (off := 106) (by rw [hsw]; rfl) (tgt := 128) rfl ?_
      refine Y_aload_0 i_X10_count_128 ?_
      refine Y_getI i_X10_count_129 f_X10_161 rfl (zg0 _ _ _ _ _) ?_
      refine X_iret i_X10_count_132 rfl ?_
      exact zap0 (by unfold w_count; (try rw [sFb2_e]); repeat (first | omega | split)) (zvi (by unfold a_count; rw [if_neg (by omega), if_neg (by omega), if_neg (by omega), if_neg (by omega), if_neg (by omega), if_neg (by omega), if_pos hsw])) (rfl)
    · refine X_tabIn i_X10_count_22 ⟨by omega, by omega⟩ (by omega) (by omega) (off := 111) (by rw [hsw]; rfl) (tgt := 133) rfl ?_
      refine Y_aload_0 i_X10_count_133 ?_
      refine Y_iload_1 i_X10_count_134 ?_
      refine X_iconst i_X10_count_135 ?_
      refine X_isub i_X10_count_136 ?_
      refine Y_callV (k' := kX10_manyIn) i_X10_count_137 l_X10_101 m_X10_manyIn (c_X10_manyIn (zs_self _ _ _) hA ⟨by omega, by omega⟩) rfl rfl rfl rfl rfl ?_
      refine X_iret i_X10_count_140 rfl ?_
      exact zap0 (by unfold w_count; (try rw [sFb2_e]); repeat (first | omega | split)) (zvi (by unfold a_count; rw [if_pos (by omega)])) (rfl)
    · refine X_tabIn i_X10_count_22 ⟨by omega, by omega⟩ (by omega) (by omega) (off := 111) (by rw [hsw]; rfl) (tgt := 133) rfl ?_
      refine Y_aload_0 i_X10_count_133 ?_
      refine Y_iload_1 i_X10_count_134 ?_
      refine X_iconst i_X10_count_135 ?_
      refine X_isub i_X10_count_136 ?_
      refine Y_callV (k' := kX10_manyIn) i_X10_count_137 l_X10_101 m_X10_manyIn (c_X10_manyIn (zs_self _ _ _) hA ⟨by omega, by omega⟩) rfl rfl rfl rfl rfl ?_
      refine X_iret i_X10_count_140 rfl ?_
      exact zap0 (by unfold w_count; (try rw [sFb2_e]); repeat (first | omega | split)) (zvi (by unfold a_count; rw [if_pos (by omega)])) (rfl)
    · refine X_tabIn i_X10_count_22 ⟨by omega, by omega⟩ (by omega) (by omega) (off := 111) (by rw [hsw]; rfl) (tgt := 133) rfl ?_
      refine Y_aload_0 i_X10_count_133 ?_
      refine Y_iload_1 i_X10_count_134 ?_
      refine X_iconst i_X10_count_135 ?_
      refine X_isub i_X10_count_136 ?_
      refine Y_callV (k' := kX10_manyIn) i_X10_count_137 l_X10_101 m_X10_manyIn (c_X10_manyIn (zs_self _ _ _) hA ⟨by omega, by omega⟩) rfl rfl rfl rfl rfl ?_
      refine X_iret i_X10_count_140 rfl ?_
      exact zap0 (by unfold w_count; (try rw [sFb2_e]); repeat (first | omega | split)) (zvi (by unfold a_count; rw [if_pos (by omega)])) (rfl)
    · refine X_tabIn i_X10_count_22 ⟨by omega, by omega⟩ (by omega) (by omega) (off := 111) (by rw [hsw]; rfl) (tgt := 133) rfl ?_
      refine Y_aload_0 i_X10_count_133 ?_
      refine Y_iload_1 i_X10_count_134 ?_
      refine X_iconst i_X10_count_135 ?_
      refine X_isub i_X10_count_136 ?_
      refine Y_callV (k' := kX10_manyIn) i_X10_count_137 l_X10_101 m_X10_manyIn (c_X10_manyIn (zs_self _ _ _) hA ⟨by omega, by omega⟩) rfl rfl rfl rfl rfl ?_
      refine X_iret i_X10_count_140 rfl ?_
      exact zap0 (by unfold w_count; (try rw [sFb2_e]); repeat (first | omega | split)) (zvi (by unfold a_count; rw [if_pos (by omega)])) (rfl)
    · refine X_tabIn i_X10_count_22 ⟨by omega, by omega⟩ (by omega) (by omega) (off := 119) (by rw [hsw]; rfl) (tgt := 141) rfl ?_
      refine Y_aload_0 i_X10_count_141 ?_
      refine Y_getI i_X10_count_142 f_X10_72 rfl (zg1 rfl (zg1 rfl (zg1 rfl rfl))) ?_
      refine X_iret i_X10_count_145 rfl ?_
      exact zap0 (by unfold w_count; (try rw [sFb2_e]); repeat (first | omega | split)) (zvi (by unfold a_count; rw [if_neg (by omega), if_neg (by omega), if_neg (by omega), if_neg (by omega), if_neg (by omega), if_neg (by omega), if_neg (by omega), if_pos hsw]; rw [← h11])) (rfl)
    · refine X_tabIn i_X10_count_22 ⟨by omega, by omega⟩ (by omega) (by omega) (off := 124) (by rw [hsw]; rfl) (tgt := 146) rfl ?_
      refine Y_aload_0 i_X10_count_146 ?_
      refine Y_getI i_X10_count_147 f_X10_256 rfl (zg1 rfl (zg1 rfl (zg1 rfl rfl))) ?_
      refine X_iret i_X10_count_150 rfl ?_
      exact zap0 (by unfold w_count; (try rw [sFb2_e]); repeat (first | omega | split)) (zvi (by unfold a_count; rw [if_neg (by omega), if_neg (by omega), if_neg (by omega), if_neg (by omega), if_neg (by omega), if_neg (by omega), if_neg (by omega), if_neg (by omega), if_pos hsw]; rw [← h15])) (rfl)
    · refine X_tabIn i_X10_count_22 ⟨by omega, by omega⟩ (by omega) (by omega) (off := 129) (by rw [hsw]; rfl) (tgt := 151) rfl ?_
      refine Y_aload_0 i_X10_count_151 ?_
      refine Y_getI i_X10_count_152 f_X10_144 rfl (zg1 rfl (zg0 _ _ _ _ _)) ?_
      refine X_iret i_X10_count_155 rfl ?_
      exact zap0 (by unfold w_count; (try rw [sFb2_e]); repeat (first | omega | split)) (zvi (by unfold a_count; rw [if_neg (by omega), if_neg (by omega), if_neg (by omega), if_neg (by omega), if_neg (by omega), if_neg (by omega), if_neg (by omega), if_neg (by omega), if_neg (by omega), if_pos hsw]; rw [← hb])) (rfl)
    · refine X_tabOut i_X10_count_22 ⟨by omega, by omega⟩ (by omega) (tgt := 156) rfl ?_
      refine X_bipush i_X10_count_156 (by decide +kernel) ?_
      refine X_iret i_X10_count_158 rfl ?_
      exact zap0 (by unfold w_count; (try rw [sFb2_e]); repeat (first | omega | split)) (zvi (by unfold a_count; rw [if_neg (by omega), if_neg (by omega), if_neg (by omega), if_neg (by omega), if_neg (by omega), if_neg (by omega), if_neg (by omega), if_neg (by omega), if_neg (by omega), if_neg (by omega)])) (rfl)
    · refine X_tabOut i_X10_count_22 ⟨by omega, by omega⟩ (by omega) (tgt := 156) rfl ?_
      refine X_bipush i_X10_count_156 (by decide +kernel) ?_
      refine X_iret i_X10_count_158 rfl ?_
      exact zap0 (by unfold w_count; (try rw [sFb2_e]); repeat (first | omega | split)) (zvi (by unfold a_count; rw [if_neg (by omega), if_neg (by omega), if_neg (by omega), if_neg (by omega), if_neg (by omega), if_neg (by omega), if_neg (by omega), if_neg (by omega), if_neg (by omega), if_neg (by omega)])) (rfl)
  · refine Y_aload_0 i_X10_count_11 ?_
    refine X_getR i_X10_count_12 f_X10_7 rfl ?_
    refine Y_iload_1 i_X10_count_15 ?_
    refine X_bipush i_X10_count_16 (by decide +kernel) ?_
    refine X_isub i_X10_count_18 ?_
    refine Y_iald i_X10_count_19 rfl ⟨by omega, by omega⟩ rfl (zg1 rfl (zg1 rfl (zg1 rfl rfl))) ?_
    refine X_iret i_X10_count_20 rfl ?_
    exact zap0 (by unfold w_count; (try rw [sFb2_e]); repeat (first | omega | split)) (zvi (by unfold a_count; rw [if_neg (by omega), if_pos (by omega), ← h10 (w - 11) (by omega) (by omega), show w - 11 + 1 = w - 10 by omega])) (rfl)
