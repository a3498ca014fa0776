def zNy (M : zMem) (w : Int) : zMem := zs M 10 (zwr (M 10) 0 (-w) (M 10 0 (-w) + 1))
/-- as X but for what the model only notes -/
def zEy (X M' : zMem) : Prop := (∀ m : Nat, m ≠ 12 → m ≠ 13 → m ≠ 14 → m ≠ 16 → m ≠ 17 → M' m = X m) ∧ zKe 42 (X 13) (M' 13) ∧ zSv (M' 14)
def zAy (w : Int) (vr v : Value) (X1 X0 : zMem) : Option Value → zMem → Prop := fun r M' => (w ≠ 0 ∧ r = some vr ∧ zEy (zNy X0 w) M') ∨ (w = 0 ∧ r = some v ∧ zEy X1 M')
theorem zey_rf {X : zMem} (h : zSv (X 14)) : zEy X X := ⟨fun _ _ _ _ _ _ => rfl, zKe.rf, h⟩
theorem zey_s {M : zMem} {S K A S9 K9 : zAft} (hS : zSv S9) (hK : zKe 42 K K9) : zEy (zs (zs (zs M 14 S) 13 K) 3 A) (zs (zs (zs M 14 S9) 13 K9) 3 A) :=
  ⟨fun m h12 h13 h14 _ _ => by
    by_cases e : m = 3
    · subst e; rw [zs_self, zs_self]
    · rw [zs_ne e, zs_ne h13, zs_ne h14, zs_ne e, zs_ne h13, zs_ne h14],
   hK, hS⟩
theorem zvi {a b : Int} (h : a = b) : Value.int (zii a) = Value.int (zii b) := by rw [h]
theorem zvl {a b : Int} (h : a = b) : Value.long (zll a) = Value.long (zll b) := by rw [h]
theorem zay1 {W w : Int} {v : Value} {X1 X0 : zMem} (h : W = w) (hn : w ≠ 0) (hS : zSv (X0 14)) : zAy W (.int (zii W)) v X1 X0 (some (.int (zii w))) (zNy X0 w) := by subst h; exact Or.inl ⟨hn, rfl, zey_rf hS⟩
theorem zay2 {W w : Int} {v : Value} {X1 X0 : zMem} (h : W = w) (hn : w ≠ 0) (hS : zSv (X0 14)) : zAy W (.int (zii (1000000000 - W))) v X1 X0 (some (.int (zii (1000000000 - w)))) (zNy X0 w) := by subst h; exact Or.inl ⟨hn, rfl, zey_rf hS⟩
theorem zay3 {W w : Int} {v : Value} {X1 X0 : zMem} (h : W = w) (hn : w ≠ 0) (hS : zSv (X0 14)) : zAy W (.long (zll (4000000000000000000 - W))) v X1 X0 (some (.long (zll (4000000000000000000 - w)))) (zNy X0 w) := by subst h; exact Or.inl ⟨hn, rfl, zey_rf hS⟩
theorem zay0 {W : Int} {vr v v' : Value} {X1 X0 M' : zMem} (h : W = 0) (hv : v' = v) (hm : zEy X1 M') : zAy W vr v X1 X0 (some v') M' := by subst hv; exact Or.inr ⟨h, rfl, hm⟩
theorem sFb2_e (n w k : Int) : sFb2 n w k = if sFa n = 0 then (if w < 0 ∨ k ≤ w then -2 else 0) else sFa n := by
  unfold sFb2 sFa
  split
  · rfl
  · split
    · rfl
    · rfl
set_option maxRecDepth 100000 in
theorem c_X10_no0 {M : zMem} {R : zAft} {w : Int} (w0 : -6 ≤ w) (w1 : w ≤ -1) : zCt kX10_no 0 [.ref 38, .int (zii w)] ((zs M 10 R)) (zRet (.int (zii w)) (zs M 10 (zwr R 0 (-w) (R 0 (-w) + 1)))) := by
  refine zMet (by decide) (Nat.le_of_ble_eq_true rfl) ?_
  show zX kX10_no 0 0 [some (.ref 38), some (.int (zii w))] [] _ _
  refine Y_aload_0 i_X10_no_0 ?_
  refine X_getR i_X10_no_1 f_X10_7 rfl ?_
  refine Y_iload_1 i_X10_no_4 ?_
  refine X_ineg i_X10_no_5 ?_
  refine X_dup2 i_X10_no_6 rfl rfl ?_
  refine Y_iald i_X10_no_7 rfl ⟨by omega, by omega⟩ rfl (zg0 _ _ _ _ _) ?_
  refine X_iconst i_X10_no_8 ?_
  refine X_iadd i_X10_no_9 ?_
  refine Y_iast i_X10_no_10 rfl ⟨by omega, by omega⟩ rfl (zp0 _ _ _ _ _ _) ?_
  refine Y_iload_1 i_X10_no_11 ?_
  refine X_iret i_X10_no_12 rfl ?_
  exact ⟨rfl, rfl⟩
theorem c_X10_no {M : zMem} {w : Int} (w0 : -6 ≤ w) (w1 : w ≤ -1) : zCt kX10_no 0 [.ref 38, .int (zii w)] M (zRet (.int (zii w)) (zNy M w)) := zctm 10 (c_X10_no0 (M := M) (R := M 10) w0 w1)
set_option maxRecDepth 100000 in
theorem c_X10_lower0 {M : zMem} {R : zAft} {w : Int} (w0 : -6 ≤ w) (w1 : w ≤ -1) : zCt kX10_lower 0 [.ref 38, .int (zii w)] ((zs M 10 R)) (zRet (.int (zii (1000000000 - w))) (zs M 10 (zwr R 0 (-w) (R 0 (-w) + 1)))) := by
  refine zMet (by decide) (Nat.le_of_ble_eq_true rfl) ?_
  show zX kX10_lower 0 0 [some (.ref 38), some (.int (zii w))] [] _ _
  refine Y_aload_0 i_X10_lower_0 ?_
  refine X_getR i_X10_lower_1 f_X10_7 rfl ?_
  refine Y_iload_1 i_X10_lower_4 ?_
  refine X_ineg i_X10_lower_5 ?_
  refine X_dup2 i_X10_lower_6 rfl rfl ?_
  refine Y_iald i_X10_lower_7 rfl ⟨by omega, by omega⟩ rfl (zg0 _ _ _ _ _) ?_
  refine X_iconst i_X10_lower_8 ?_
  refine X_iadd i_X10_lower_9 ?_
  refine Y_iast i_X10_lower_10 rfl ⟨by omega, by omega⟩ rfl (zp0 _ _ _ _ _ _) ?_
  refine X_ldc i_X10_lower_11 n_X10_62 (x := 1000000000) (by decide +kernel) ?_
  refine Y_iload_1 i_X10_lower_13 ?_
  refine X_isub i_X10_lower_14 ?_
  refine X_iret i_X10_lower_15 rfl ?_
  exact ⟨rfl, rfl⟩
theorem c_X10_lower {M : zMem} {w : Int} (w0 : -6 ≤ w) (w1 : w ≤ -1) : zCt kX10_lower 0 [.ref 38, .int (zii w)] M (zRet (.int (zii (1000000000 - w))) (zNy M w)) := zctm 10 (c_X10_lower0 (M := M) (R := M 10) w0 w1)
set_option maxRecDepth 100000 in
theorem c_X10_lowest0 {M : zMem} {R : zAft} {w : Int} (w0 : -6 ≤ w) (w1 : w ≤ -1) : zCt kX10_lowest 0 [.ref 38, .int (zii w)] ((zs M 10 R)) (zRet (.long (zll (4000000000000000000 - w))) (zs M 10 (zwr R 0 (-w) (R 0 (-w) + 1)))) := by
  refine zMet (by decide) (Nat.le_of_ble_eq_true rfl) ?_
  show zX kX10_lowest 0 0 [some (.ref 38), some (.int (zii w))] [] _ _
  refine Y_aload_0 i_X10_lowest_0 ?_
  refine X_getR i_X10_lowest_1 f_X10_7 rfl ?_
  refine Y_iload_1 i_X10_lowest_4 ?_
  refine X_ineg i_X10_lowest_5 ?_
  refine X_dup2 i_X10_lowest_6 rfl rfl ?_
  refine Y_iald i_X10_lowest_7 rfl ⟨by omega, by omega⟩ rfl (zg0 _ _ _ _ _) ?_
  refine X_iconst i_X10_lowest_8 ?_
  refine X_iadd i_X10_lowest_9 ?_
  refine Y_iast i_X10_lowest_10 rfl ⟨by omega, by omega⟩ rfl (zp0 _ _ _ _ _ _) ?_
  refine X_ldc2 i_X10_lowest_11 n_X10_63 (x := 4000000000000000000) (by decide +kernel) ?_
  refine Y_iload_1 i_X10_lowest_14 ?_
  refine X_i2l i_X10_lowest_15 ⟨by omega, by omega⟩ ?_
  refine X_lsub i_X10_lowest_16 ?_
  refine X_lret i_X10_lowest_17 rfl ?_
  exact ⟨rfl, rfl⟩
theorem c_X10_lowest {M : zMem} {w : Int} (w0 : -6 ≤ w) (w1 : w ≤ -1) : zCt kX10_lowest 0 [.ref 38, .int (zii w)] M (zRet (.long (zll (4000000000000000000 - w))) (zNy M w)) := zctm 10 (c_X10_lowest0 (M := M) (R := M 10) w0 w1)
set_option maxRecDepth 100000 in
theorem c_X10_guestOf {M N : zMem} {S K : zAft} (hA : zOk 999 (N 0)) (hS : zSv S) {x : Int} (h_x : zR x) {w : Int} (h_w : zR w) : zCt kX10_guestOf 1 [.ref 38, .int (zii x), .int (zii w)] ((zs (zs (zs M 14 S) 13 K) 3 (N 0))) (zAy (w_guestOf N x w) (.int (zii (w_guestOf N x w))) (.int (zii (a_guestOf N x w))) (zs (zs (zs M 14 S) 13 K) 3 (N 0)) (zs (zs (zs M 14 S) 13 K) 3 (N 0))) := by
  have h6 := hA.1
  unfold zH at h6
  have hG := sG_le hA.1
  have b_x := h_x.1
  have c_x := h_x.2
  have b_w := h_w.1
  have c_w := h_w.2
  refine zMet (by decide) (Nat.le_of_ble_eq_true rfl) ?_
  show zX kX10_guestOf 1 0 [some (.ref 38), some (.int (zii x)), some (.int (zii w))] [] _ _
  refine Y_aload_0 i_X10_guestOf_0 ?_
  refine Y_iload_1 i_X10_guestOf_1 ?_
  refine Y_callV (k' := kX10_isGuest) i_X10_guestOf_2 l_X10_111 m_X10_isGuest (c_X10_isGuest (zs_self _ _ _) hA ⟨by omega, by omega⟩) rfl rfl rfl rfl rfl ?_
  refine Y_ifq_ne i_X10_guestOf_5 (tgt := 14) rfl  (fun h5 => ?_) (fun h5 => ?_)
  · refine Y_iload_2 i_X10_guestOf_14 ?_
    have hgx := hA.2 x (by omega) (by omega)
    unfold zG at hgx
    rcases (by omega : w = 0 ∨ w = 1 ∨ w = 2 ∨ w = 3 ∨ w = 4 ∨ w = 5 ∨ w = 6 ∨ w = 7 ∨ w = 8 ∨ w = 9 ∨ (w < 0 ∨ 9 < w)) with hsw | hsw | hsw | hsw | hsw | hsw | hsw | hsw | hsw | hsw | hsw
    · refine X_tabIn i_X10_guestOf_15 ⟨by omega, by omega⟩ (by omega) (by omega) (off := 53) (by rw [hsw]; rfl) (tgt := 68) rfl ?_
      refine Y_aload_0 i_X10_guestOf_68 ?_
      refine X_getR i_X10_guestOf_69 f_X10_13 rfl ?_
      refine Y_iload_1 i_X10_guestOf_72 ?_
      refine Y_iald i_X10_guestOf_73 rfl ⟨by omega, by omega⟩ rfl (zg0 _ _ _ _ _) ?_
      refine X_iret i_X10_guestOf_74 rfl ?_
      exact zay0 (by unfold w_guestOf; (try rw [sFb2_e]); repeat (first | omega | split)) (zvi (by unfold a_guestOf sTell; simp [hsw])) (zey_rf hS)
    · refine X_tabIn i_X10_guestOf_15 ⟨by omega, by omega⟩ (by omega) (by omega) (off := 60) (by rw [hsw]; rfl) (tgt := 75) rfl ?_
      refine Y_aload_0 i_X10_guestOf_75 ?_
      refine X_getR i_X10_guestOf_76 f_X10_16 rfl ?_
      refine Y_iload_1 i_X10_guestOf_79 ?_
      refine Y_iald i_X10_guestOf_80 rfl ⟨by omega, by omega⟩ rfl (zg0 _ _ _ _ _) ?_
      refine X_iret i_X10_guestOf_81 rfl ?_
      exact zay0 (by unfold w_guestOf; (try rw [sFb2_e]); repeat (first | omega | split)) (zvi (by unfold a_guestOf sTell; simp [hsw])) (zey_rf hS)
    · refine X_tabIn i_X10_guestOf_15 ⟨by omega, by omega⟩ (by omega) (by omega) (off := 67) (by rw [hsw]; rfl) (tgt := 82) rfl ?_
      refine Y_aload_0 i_X10_guestOf_82 ?_
      refine X_getR i_X10_guestOf_83 f_X10_19 rfl ?_
      refine Y_iload_1 i_X10_guestOf_86 ?_
      refine Y_iald i_X10_guestOf_87 rfl ⟨by omega, by omega⟩ rfl (zg0 _ _ _ _ _) ?_
      refine X_iret i_X10_guestOf_88 rfl ?_
      exact zay0 (by unfold w_guestOf; (try rw [sFb2_e]); repeat (first | omega | split)) (zvi (by unfold a_guestOf sTell; simp [hsw])) (zey_rf hS)
    · refine X_tabIn i_X10_guestOf_15 ⟨by omega, by omega⟩ (by omega) (by omega) (off := 74) (by rw [hsw]; rfl) (tgt := 89) rfl ?_
      refine Y_aload_0 i_X10_guestOf_89 ?_
      refine X_getR i_X10_guestOf_90 f_X10_22 rfl ?_
      refine Y_iload_1 i_X10_guestOf_93 ?_
      refine Y_iald i_X10_guestOf_94 rfl ⟨by omega, by omega⟩ rfl (zg0 _ _ _ _ _) ?_
      refine X_iret i_X10_guestOf_95 rfl ?_
      exact zay0 (by unfold w_guestOf; (try rw [sFb2_e]); repeat (first | omega | split)) (zvi (by unfold a_guestOf sTell; simp [hsw])) (zey_rf hS)
    · refine X_tabIn i_X10_guestOf_15 ⟨by omega, by omega⟩ (by omega) (by omega) (off := 81) (by rw [hsw]; rfl) (tgt := 96) rfl ?_
      refine Y_aload_0 i_X10_guestOf_96 ?_
      refine X_getR i_X10_guestOf_97 f_X10_25 rfl ?_
      refine Y_iload_1 i_X10_guestOf_100 ?_
      refine Y_iald i_X10_guestOf_101 rfl ⟨by omega, by omega⟩ rfl (zg0 _ _ _ _ _) ?_
      refine X_iret i_X10_guestOf_102 rfl ?_
      exact zay0 (by unfold w_guestOf; (try rw [sFb2_e]); repeat (first | omega | split)) (zvi (by unfold a_guestOf sTell; simp [hsw])) (zey_rf hS)
    · refine X_tabIn i_X10_guestOf_15 ⟨by omega, by omega⟩ (by omega) (by omega) (off := 88) (by rw [hsw]; rfl) (tgt := 103) rfl ?_
      refine Y_aload_0 i_X10_guestOf_103 ?_
      refine X_getR i_X10_guestOf_104 f_X10_28 rfl ?_
      refine Y_iload_1 i_X10_guestOf_107 ?_
      refine Y_iald i_X10_guestOf_108 rfl ⟨by omega, by omega⟩ rfl (zg0 _ _ _ _ _) ?_
      refine X_iret i_X10_guestOf_109 rfl ?_
      exact zay0 (by unfold w_guestOf; (try rw [sFb2_e]); repeat (first | omega | split)) (zvi (by unfold a_guestOf sTell; simp [hsw])) (zey_rf hS)
    · refine X_tabIn i_X10_guestOf_15 ⟨by omega, by omega⟩ (by omega) (by omega) (off := 95) (by rw [hsw]; rfl) (tgt := 110) rfl ?_
      refine Y_aload_0 i_X10_guestOf_110 ?_
      refine Y_iload_1 i_X10_guestOf_111 ?_
      refine Y_callV (k' := kX10_limitOf) i_X10_guestOf_112 l_X10_173 m_X10_limitOf (c_X10_limitOf (zs_self _ _ _) (by omega) (by omega) rfl rfl hgx.1 hgx.2.1) rfl rfl rfl rfl rfl ?_
      refine X_iret i_X10_guestOf_115 rfl ?_
      exact zay0 (by unfold w_guestOf; (try rw [sFb2_e]); repeat (first | omega | split)) (zvi (by unfold a_guestOf sTell; simp [hsw])) (zey_rf hS)
    · refine X_tabIn i_X10_guestOf_15 ⟨by omega, by omega⟩ (by omega) (by omega) (off := 101) (by rw [hsw]; rfl) (tgt := 116) rfl ?_
      refine Y_aload_0 i_X10_guestOf_116 ?_
      refine Y_iload_1 i_X10_guestOf_117 ?_
      refine Y_callV (k' := kX10_patienceOf) i_X10_guestOf_118 l_X10_176 m_X10_patienceOf (c_X10_patienceOf (zs_self _ _ _) (by omega) (by omega) rfl rfl hgx.1 hgx.2.1) rfl rfl rfl rfl rfl ?_
      refine X_iret i_X10_guestOf_121 rfl ?_
      exact zay0 (by unfold w_guestOf; (try rw [sFb2_e]); repeat (first | omega | split)) (zvi (by unfold a_guestOf sTell; simp [hsw])) (zey_rf hS)
    · refine X_tabIn i_X10_guestOf_15 ⟨by omega, by omega⟩ (by omega) (by omega) (off := 107) (by rw [hsw]; rfl) (tgt := 122) rfl ?_
      refine Y_aload_0 i_X10_guestOf_122 ?_
      refine Y_iload_1 i_X10_guestOf_123 ?_
      refine Y_callV (k' := kX10_sipOf) i_X10_guestOf_124 l_X10_167 m_X10_sipOf (c_X10_sipOf (zs_self _ _ _) (by omega) (by omega) rfl rfl hgx.1 hgx.2.1) rfl rfl rfl rfl rfl ?_
      refine X_iret i_X10_guestOf_127 rfl ?_
      exact zay0 (by unfold w_guestOf; (try rw [sFb2_e]); repeat (first | omega | split)) (zvi (by unfold a_guestOf sTell; simp [hsw])) (zey_rf hS)
    · refine X_tabIn i_X10_guestOf_15 ⟨by omega, by omega⟩ (by omega) (by omega) (off := 113) (by rw [hsw]; rfl) (tgt := 128) rfl ?_
      refine Y_aload_0 i_X10_guestOf_128 ?_
      refine Y_iload_1 i_X10_guestOf_129 ?_
      refine Y_callV (k' := kX10_enoughOf) i_X10_guestOf_130 l_X10_170 m_X10_enoughOf (c_X10_enoughOf (zs_self _ _ _) (by omega) (by omega) rfl rfl hgx.1 hgx.2.1) rfl rfl rfl rfl rfl ?_
      refine X_iret i_X10_guestOf_133 rfl ?_
      exact zay0 (by unfold w_guestOf; (try rw [sFb2_e]); repeat (first | omega | split)) (zvi (by unfold a_guestOf sTell; simp [hsw])) (zey_rf hS)
    · refine X_tabOut i_X10_guestOf_15 ⟨by omega, by omega⟩ (by omega) (tgt := 134) rfl ?_
      refine Y_aload_0 i_X10_guestOf_134 ?_
      refine X_bipush i_X10_guestOf_135 (by decide +kernel) ?_
      refine Y_callV (k' := kX10_no) i_X10_guestOf_137 l_X10_75 m_X10_no (c_X10_no (by omega) (by omega)) rfl rfl rfl rfl rfl ?_
      refine X_iret i_X10_guestOf_140 rfl ?_
      exact zay1 (by unfold w_guestOf; (try rw [sFb2_e]); repeat (first | omega | split)) (by omega) hS
  · refine Y_aload_0 i_X10_guestOf_8 ?_
    refine X_iconst i_X10_guestOf_9 ?_
    refine Y_callV (k' := kX10_no) i_X10_guestOf_10 l_X10_75 m_X10_no (c_X10_no (by omega) (by omega)) rfl rfl rfl rfl rfl ?_
    refine X_iret i_X10_guestOf_13 rfl ?_
    exact zay1 (by unfold w_guestOf; (try rw [sFb2_e]); repeat (first | omega | split)) (by omega) hS
set_option maxRecDepth 100000 in
theorem c_X10_behind {M N : zMem} {S K : zAft} (hA : zOk 999 (N 0)) (hS : zSv S) {x : Int} (h_x : zR x) {n : Int} (h_n : zR n) {w : Int} (h_w : zR w) : zCt kX10_behind 5 [.ref 38, .int (zii x), .int (zii n), .int (zii w)] ((zs (zs (zs M 14 S) 13 K) 3 (N 0))) (zAy (w_behind N x n w) (.int (zii (w_behind N x n w))) (.int (zii (a_behind N x n w))) (zs (zs (zs M 14 S) 13 K) 3 (N 0)) (zs (zs (zs M 14 S) 13 K) 3 (N 0))) := by
  have h6 := hA.1
  unfold zH at h6
  have hG := sG_le hA.1
  have b_x := h_x.1
  have c_x := h_x.2
  have b_n := h_n.1
  have c_n := h_n.2
  have b_w := h_w.1
  have c_w := h_w.2
  have hfa := sFa_in n
  refine zMet (by decide) (Nat.le_of_ble_eq_true rfl) ?_
  show zX kX10_behind 5 0 [some (.ref 38), some (.int (zii x)), some (.int (zii n)), some (.int (zii w)), none, none] [] _ _
  refine Y_aload_0 i_X10_behind_0 ?_
  refine Y_iload_1 i_X10_behind_1 ?_
  refine Y_callV (k' := kX10_isGuest) i_X10_behind_2 l_X10_111 m_X10_isGuest (c_X10_isGuest (zs_self _ _ _) hA ⟨by omega, by omega⟩) rfl rfl rfl rfl rfl ?_
  refine Y_ifq_ne i_X10_behind_5 (tgt := 12) rfl  (fun h5 => ?_) (fun h5 => ?_)
  · refine Y_iload_2 i_X10_behind_12 ?_
    refine Y_callS (k' := kX10_notMinutes) i_X10_behind_13 l_X10_204 m_X10_notMinutes (c_X10_notMinutes ⟨by omega, by omega⟩) rfl rfl rfl rfl ?_
    refine Y_istore_4 i_X10_behind_16 rfl rfl ?_
    refine Y_iload_4 i_X10_behind_18 ?_
    refine Y_if_ne i_X10_behind_20 (tgt := 36) rfl ⟨by omega, by omega⟩ (fun h20 => ?_) (fun h20 => ?_)
    · refine Y_iload_4 i_X10_behind_36 ?_
      refine X_if_eq i_X10_behind_38 (tgt := 48) rfl ⟨by omega, by omega⟩ (fun h38 => ?_) (fun h38 => ?_)
      · refine Y_aload_0 i_X10_behind_48 ?_
        obtain ⟨t, rfl⟩ : ∃ t : Nat, n = t := ⟨n.toNat, by omega⟩
        refine Y_callVq (k' := kX10_thinks) i_X10_behind_49 l_X10_207 m_X10_thinks c_X10_thinks rfl rfl rfl rfl rfl ?_
        intro r9 M9 hr9
        obtain ⟨rfl, K1, hk1, rfl⟩ := hr9
        refine X_tl0 ?_
        refine Y_aload_0 i_X10_behind_52 ?_
        refine Y_iload_2 i_X10_behind_53 ?_
        refine Y_callVv (k' := kX10_goes) i_X10_behind_54 l_X10_107 m_X10_goes (c_X10_goes hA hS (by omega) (by omega)) rfl rfl rfl rfl rfl ?_
        refine Y_iload_3 i_X10_behind_57 ?_
        refine Y_if_ne i_X10_behind_58 (tgt := 70) rfl ⟨by omega, by omega⟩ (fun h58 => ?_) (fun h58 => ?_)
        · refine Y_iload_3 i_X10_behind_70 ?_
          refine X_iconst i_X10_behind_71 ?_
          refine Y_icmp_ne i_X10_behind_72 (tgt := 84) rfl ⟨by omega, by omega⟩ ⟨by omega, by omega⟩ (fun h72 => ?_) (fun h72 => ?_)
          · refine Y_aload_0 i_X10_behind_84 ?_
            refine X_getR i_X10_behind_85 f_X10_28 rfl ?_
            refine Y_iload_1 i_X10_behind_88 ?_
            refine Y_iald i_X10_behind_89 rfl ⟨by omega, by omega⟩ rfl (zg0 _ _ _ _ _) ?_
            refine Y_istore_5 i_X10_behind_90 rfl rfl ?_
            refine Y_aload_0 i_X10_behind_92 ?_
            refine Y_callVq (k' := kX10_forgets) i_X10_behind_93 l_X10_210 m_X10_forgets (c_X10_forgets hk1.1) rfl rfl rfl rfl rfl ?_
            intro r9 M9 hr9
            obtain ⟨rfl, K2, hk2, rfl⟩ := hr9
            refine X_tl0 ?_
            refine Y_iload_5 i_X10_behind_96 ?_
            refine X_iret i_X10_behind_98 rfl ?_
            exact zay0 (by unfold w_behind; (try rw [sFb2_e]); repeat (first | omega | split)) (zvi (by unfold a_behind; rw [if_neg (by omega), if_neg (by omega)]; rfl)) (zey_s (sRS_in _ hS t) (hk1.2.tr hk2).mo)
          · refine Y_aload_0 i_X10_behind_75 ?_
            refine X_getR i_X10_behind_76 f_X10_19 rfl ?_
            refine Y_iload_1 i_X10_behind_79 ?_
            refine Y_iald i_X10_behind_80 rfl ⟨by omega, by omega⟩ rfl (zg0 _ _ _ _ _) ?_
            refine X_goto i_X10_behind_81 (tgt := 90) rfl ?_
            refine Y_istore_5 i_X10_behind_90 rfl rfl ?_
            refine Y_aload_0 i_X10_behind_92 ?_
            refine Y_callVq (k' := kX10_forgets) i_X10_behind_93 l_X10_210 m_X10_forgets (c_X10_forgets hk1.1) rfl rfl rfl rfl rfl ?_
            intro r9 M9 hr9
            obtain ⟨rfl, K2, hk2, rfl⟩ := hr9
            refine X_tl0 ?_
            refine Y_iload_5 i_X10_behind_96 ?_
            refine X_iret i_X10_behind_98 rfl ?_
            exact zay0 (by unfold w_behind; (try rw [sFb2_e]); repeat (first | omega | split)) (zvi (by unfold a_behind; rw [if_neg (by omega), if_pos (by omega)]; rfl)) (zey_s (sRS_in _ hS t) (hk1.2.tr hk2).mo)
        · refine Y_aload_0 i_X10_behind_61 ?_
          refine X_getR i_X10_behind_62 f_X10_22 rfl ?_
          refine Y_iload_1 i_X10_behind_65 ?_
          refine Y_iald i_X10_behind_66 rfl ⟨by omega, by omega⟩ rfl (zg0 _ _ _ _ _) ?_
          refine X_goto i_X10_behind_67 (tgt := 90) rfl ?_
          refine Y_istore_5 i_X10_behind_90 rfl rfl ?_
          refine Y_aload_0 i_X10_behind_92 ?_
          refine Y_callVq (k' := kX10_forgets) i_X10_behind_93 l_X10_210 m_X10_forgets (c_X10_forgets hk1.1) rfl rfl rfl rfl rfl ?_
          intro r9 M9 hr9
          obtain ⟨rfl, K2, hk2, rfl⟩ := hr9
          refine X_tl0 ?_
          refine Y_iload_5 i_X10_behind_96 ?_
          refine X_iret i_X10_behind_98 rfl ?_
          exact zay0 (by unfold w_behind; (try rw [sFb2_e]); repeat (first | omega | split)) (zvi (by unfold a_behind; rw [if_pos (by omega)]; rfl)) (zey_s (sRS_in _ hS t) (hk1.2.tr hk2).mo)
      · refine Y_aload_0 i_X10_behind_41 ?_
        refine Y_iload_4 i_X10_behind_42 ?_
        refine Y_callV (k' := kX10_no) i_X10_behind_44 l_X10_75 m_X10_no (c_X10_no (by omega) (by omega)) rfl rfl rfl rfl rfl ?_
        refine X_iret i_X10_behind_47 rfl ?_
        exact zay1 (by unfold w_behind; (try rw [sFb2_e]); repeat (first | omega | split)) (by omega) hS
    · refine Y_iload_3 i_X10_behind_23 ?_
      refine X_iconst i_X10_behind_24 ?_
      refine X_iconst i_X10_behind_25 ?_
      refine Y_callS (k' := kX10_isIn) i_X10_behind_26 l_X10_86 m_X10_isIn (c_X10_isIn ⟨by omega, by omega⟩ (zR_lit rfl) (zR_lit rfl)) rfl rfl rfl rfl ?_
      refine Y_ifq_ne i_X10_behind_29 (tgt := 36) rfl  (fun h29 => ?_) (fun h29 => ?_)
      · refine Y_iload_4 i_X10_behind_36 ?_
        refine X_if_eq i_X10_behind_38 (tgt := 48) rfl ⟨by omega, by omega⟩ (fun h38 => ?_) (fun h38 => ?_)
        · refine Y_aload_0 i_X10_behind_48 ?_
          obtain ⟨t, rfl⟩ : ∃ t : Nat, n = t := ⟨n.toNat, by omega⟩
          refine Y_callVq (k' := kX10_thinks) i_X10_behind_49 l_X10_207 m_X10_thinks c_X10_thinks rfl rfl rfl rfl rfl ?_
          intro r9 M9 hr9
          obtain ⟨rfl, K1, hk1, rfl⟩ := hr9
          refine X_tl0 ?_
          refine Y_aload_0 i_X10_behind_52 ?_
          refine Y_iload_2 i_X10_behind_53 ?_
          refine Y_callVv (k' := kX10_goes) i_X10_behind_54 l_X10_107 m_X10_goes (c_X10_goes hA hS (by omega) (by omega)) rfl rfl rfl rfl rfl ?_
          refine Y_iload_3 i_X10_behind_57 ?_
          refine Y_if_ne i_X10_behind_58 (tgt := 70) rfl ⟨by omega, by omega⟩ (fun h58 => ?_) (fun h58 => ?_)
          · refine Y_iload_3 i_X10_behind_70 ?_
            refine X_iconst i_X10_behind_71 ?_
            refine Y_icmp_ne i_X10_behind_72 (tgt := 84) rfl ⟨by omega, by omega⟩ ⟨by omega, by omega⟩ (fun h72 => ?_) (fun h72 => ?_)
            · refine Y_aload_0 i_X10_behind_84 ?_
              refine X_getR i_X10_behind_85 f_X10_28 rfl ?_
              refine Y_iload_1 i_X10_behind_88 ?_
              refine Y_iald i_X10_behind_89 rfl ⟨by omega, by omega⟩ rfl (zg0 _ _ _ _ _) ?_
              refine Y_istore_5 i_X10_behind_90 rfl rfl ?_
              refine Y_aload_0 i_X10_behind_92 ?_
              refine Y_callVq (k' := kX10_forgets) i_X10_behind_93 l_X10_210 m_X10_forgets (c_X10_forgets hk1.1) rfl rfl rfl rfl rfl ?_
              intro r9 M9 hr9
              obtain ⟨rfl, K2, hk2, rfl⟩ := hr9
              refine X_tl0 ?_
              refine Y_iload_5 i_X10_behind_96 ?_
              refine X_iret i_X10_behind_98 rfl ?_
              exact zay0 (by unfold w_behind; (try rw [sFb2_e]); repeat (first | omega | split)) (zvi (by unfold a_behind; rw [if_neg (by omega), if_neg (by omega)]; rfl)) (zey_s (sRS_in _ hS t) (hk1.2.tr hk2).mo)
            · refine Y_aload_0 i_X10_behind_75 ?_
              refine X_getR i_X10_behind_76 f_X10_19 rfl ?_
              refine Y_iload_1 i_X10_behind_79 ?_
              refine Y_iald i_X10_behind_80 rfl ⟨by omega, by omega⟩ rfl (zg0 _ _ _ _ _) ?_
              refine X_goto i_X10_behind_81 (tgt := 90) rfl ?_
              refine Y_istore_5 i_X10_behind_90 rfl rfl ?_
              refine Y_aload_0 i_X10_behind_92 ?_
              refine Y_callVq (k' := kX10_forgets) i_X10_behind_93 l_X10_210 m_X10_forgets (c_X10_forgets hk1.1) rfl rfl rfl rfl rfl ?_
              intro r9 M9 hr9
              obtain ⟨rfl, K2, hk2, rfl⟩ := hr9
              refine X_tl0 ?_
              refine Y_iload_5 i_X10_behind_96 ?_
              refine X_iret i_X10_behind_98 rfl ?_
              exact zay0 (by unfold w_behind; (try rw [sFb2_e]); repeat (first | omega | split)) (zvi (by unfold a_behind; rw [if_neg (by omega), if_pos (by omega)]; rfl)) (zey_s (sRS_in _ hS t) (hk1.2.tr hk2).mo)
          · refine Y_aload_0 i_X10_behind_61 ?_
            refine X_getR i_X10_behind_62 f_X10_22 rfl ?_
            refine Y_iload_1 i_X10_behind_65 ?_
            refine Y_iald i_X10_behind_66 rfl ⟨by omega, by omega⟩ rfl (zg0 _ _ _ _ _) ?_
            refine X_goto i_X10_behind_67 (tgt := 90) rfl ?_
            refine Y_istore_5 i_X10_behind_90 rfl rfl ?_
            refine Y_aload_0 i_X10_behind_92 ?_
            refine Y_callVq (k' := kX10_forgets) i_X10_behind_93 l_X10_210 m_X10_forgets (c_X10_forgets hk1.1) rfl rfl rfl rfl rfl ?_
            intro r9 M9 hr9
            obtain ⟨rfl, K2, hk2, rfl⟩ := hr9
            refine X_tl0 ?_
            refine Y_iload_5 i_X10_behind_96 ?_
            refine X_iret i_X10_behind_98 rfl ?_
            exact zay0 (by unfold w_behind; (try rw [sFb2_e]); repeat (first | omega | split)) (zvi (by unfold a_behind; rw [if_pos (by omega)]; rfl)) (zey_s (sRS_in _ hS t) (hk1.2.tr hk2).mo)
        · refine Y_aload_0 i_X10_behind_41 ?_
          refine Y_iload_4 i_X10_behind_42 ?_
          refine Y_callV (k' := kX10_no) i_X10_behind_44 l_X10_75 m_X10_no (c_X10_no (by omega) (by omega)) rfl rfl rfl rfl rfl ?_
          refine X_iret i_X10_behind_47 rfl ?_
          exact zay1 (by unfold w_behind; (try rw [sFb2_e]); repeat (first | omega | split)) (by omega) hS
      · refine X_bipush i_X10_behind_32 (by decide +kernel) ?_
        refine Y_istore_4 i_X10_behind_34 rfl rfl ?_
        refine Y_iload_4 i_X10_behind_36 ?_
        refine X_if_eq i_X10_behind_38 (tgt := 48) rfl ⟨by omega, by omega⟩ (fun h38 => by exfalso; omega) (fun h38 => ?_)
        refine Y_aload_0 i_X10_behind_41 ?_
        refine Y_iload_4 i_X10_behind_42 ?_
        refine Y_callV (k' := kX10_no) i_X10_behind_44 l_X10_75 m_X10_no (c_X10_no (by omega) (by omega)) rfl rfl rfl rfl rfl ?_
        refine X_iret i_X10_behind_47 rfl ?_
        exact zay1 (by unfold w_behind; (try rw [sFb2_e]); repeat (first | omega | split)) (by omega) hS
  · refine X_iconst i_X10_behind_8 ?_
    refine X_goto i_X10_behind_9 (tgt := 16) rfl ?_
    refine Y_istore_4 i_X10_behind_16 rfl rfl ?_
    refine Y_iload_4 i_X10_behind_18 ?_
    refine Y_if_ne i_X10_behind_20 (tgt := 36) rfl ⟨by omega, by omega⟩ (fun h20 => ?_) (fun h20 => by exfalso; omega)
    refine Y_iload_4 i_X10_behind_36 ?_
    refine X_if_eq i_X10_behind_38 (tgt := 48) rfl ⟨by omega, by omega⟩ (fun h38 => by exfalso; omega) (fun h38 => ?_)
    refine Y_aload_0 i_X10_behind_41 ?_
    refine Y_iload_4 i_X10_behind_42 ?_
    refine Y_callV (k' := kX10_no) i_X10_behind_44 l_X10_75 m_X10_no (c_X10_no (by omega) (by omega)) rfl rfl rfl rfl rfl ?_
    refine X_iret i_X10_behind_47 rfl ?_
    exact zay1 (by unfold w_behind; (try rw [sFb2_e]); repeat (first | omega | split)) (by omega) hS
set_option maxRecDepth 100000 in
theorem c_X10_all {M N : zMem} {S K : zAft} (hA : zOk 999 (N 0)) (hS : zSv S) {n : Int} (h_n : zR n) {w : Int} (h_w : zR w) : zCt kX10_all 5 [.ref 38, .int (zii n), .int (zii w)] ((zs (zs (zs M 14 S) 13 K) 3 (N 0))) (zAy (w_all N n w) (.int (zii (w_all N n w))) (.int (zii (a_all N n w))) (zs (zs (zs M 14 S) 13 K) 3 (N 0)) (zs (zs (zs M 14 S) 13 K) 3 (N 0))) := by
  have h6 := hA.1
  unfold zH at h6
  have hG := sG_le hA.1
  have b_n := h_n.1
  have c_n := h_n.2
  have b_w := h_w.1
  have c_w := h_w.2
  have hfa := sFa_in n
  refine zMet (by decide) (Nat.le_of_ble_eq_true rfl) ?_
  show zX kX10_all 5 0 [some (.ref 38), some (.int (zii n)), some (.int (zii w)), none, none, none] [] _ _
  refine Y_iload_1 i_X10_all_0 ?_
  refine Y_callS (k' := kX10_notMinutes) i_X10_all_1 l_X10_204 m_X10_notMinutes (c_X10_notMinutes ⟨by omega, by omega⟩) rfl rfl rfl rfl ?_
  refine Y_istore_3 i_X10_all_4 rfl rfl ?_
  refine Y_iload_3 i_X10_all_5 ?_
  refine Y_if_ne i_X10_all_6 (tgt := 21) rfl ⟨by omega, by omega⟩ (fun h6 => ?_) (fun h6 => ?_)
  · refine Y_iload_3 i_X10_all_21 ?_
    refine X_if_eq i_X10_all_22 (tgt := 31) rfl ⟨by omega, by omega⟩ (fun h22 => ?_) (fun h22 => ?_)
    · refine Y_aload_0 i_X10_all_31 ?_
      obtain ⟨t, rfl⟩ : ∃ t : Nat, n = t := ⟨n.toNat, by omega⟩
      have hO := sRun_ok hA t
      refine Y_callVq (k' := kX10_thinks) i_X10_all_32 l_X10_207 m_X10_thinks c_X10_thinks rfl rfl rfl rfl rfl ?_
      intro r9 M9 hr9
      obtain ⟨rfl, K1, hk1, rfl⟩ := hr9
      refine X_tl0 ?_
      refine Y_aload_0 i_X10_all_35 ?_
      refine Y_getI i_X10_all_36 f_X10_161 rfl (zg0 _ _ _ _ _) ?_
      refine Y_istore_4 i_X10_all_39 rfl rfl ?_
      refine Y_aload_0 i_X10_all_41 ?_
      refine Y_iload_1 i_X10_all_42 ?_
      refine Y_callVv (k' := kX10_goes) i_X10_all_43 l_X10_107 m_X10_goes (c_X10_goes hA hS (by omega) (by omega)) rfl rfl rfl rfl rfl ?_
      refine Y_iload_2 i_X10_all_46 ?_
      refine X_iconst i_X10_all_47 ?_
      refine X_icmp_ge i_X10_all_48 (tgt := 59) rfl ⟨by omega, by omega⟩ ⟨by omega, by omega⟩ (fun h48 => ?_) (fun h48 => ?_)
      · refine Y_iload_2 i_X10_all_59 ?_
        refine X_iconst i_X10_all_60 ?_
        refine Y_icmp_ne i_X10_all_61 (tgt := 74) rfl ⟨by omega, by omega⟩ ⟨by omega, by omega⟩ (fun h61 => ?_) (fun h61 => ?_)
        · refine Y_aload_0 i_X10_all_74 ?_
          refine Y_callV (k' := kX10_allThirst) i_X10_all_75 l_X10_213 m_X10_allThirst (c_X10_allThirst (zs_self _ _ _) hO) rfl rfl rfl rfl rfl ?_
          refine Y_istore_5 i_X10_all_78 rfl rfl ?_
          refine Y_aload_0 i_X10_all_80 ?_
          refine Y_callVq (k' := kX10_forgets) i_X10_all_81 l_X10_210 m_X10_forgets (c_X10_forgets hk1.1) rfl rfl rfl rfl rfl ?_
          intro r9 M9 hr9
          obtain ⟨rfl, K2, hk2, rfl⟩ := hr9
          refine X_tl0 ?_
          refine Y_iload_5 i_X10_all_84 ?_
          refine X_iret i_X10_all_86 rfl ?_
          exact zay0 (by unfold w_all; (try rw [sFb2_e]); repeat (first | omega | split)) (zvi (by unfold a_all; rw [if_neg (by omega), if_neg (by omega)]; rw [sRun_G]; rfl)) (zey_s (sRS_in _ hS t) (hk1.2.tr hk2).mo)
        · refine Y_aload_0 i_X10_all_64 ?_
          refine Y_getI i_X10_all_65 f_X10_161 rfl (zg0 _ _ _ _ _) ?_
          refine Y_iload_4 i_X10_all_68 ?_
          refine X_isub i_X10_all_70 ?_
          refine X_goto i_X10_all_71 (tgt := 78) rfl ?_
          refine Y_istore_5 i_X10_all_78 rfl rfl ?_
          refine Y_aload_0 i_X10_all_80 ?_
          refine Y_callVq (k' := kX10_forgets) i_X10_all_81 l_X10_210 m_X10_forgets (c_X10_forgets hk1.1) rfl rfl rfl rfl rfl ?_
          intro r9 M9 hr9
          obtain ⟨rfl, K2, hk2, rfl⟩ := hr9
          refine X_tl0 ?_
          refine Y_iload_5 i_X10_all_84 ?_
          refine X_iret i_X10_all_86 rfl ?_
          exact zay0 (by unfold w_all; (try rw [sFb2_e]); repeat (first | omega | split)) (zvi (by unfold a_all; rw [if_neg (by omega), if_pos (by omega)]; rfl)) (zey_s (sRS_in _ hS t) (hk1.2.tr hk2).mo)
      · refine Y_aload_0 i_X10_all_51 ?_
        refine Y_iload_2 i_X10_all_52 ?_
        refine Y_callV (k' := kX10_manyIn) i_X10_all_53 l_X10_101 m_X10_manyIn (c_X10_manyIn (zs_self _ _ _) hO ⟨by omega, by omega⟩) rfl rfl rfl rfl rfl ?_
        refine X_goto i_X10_all_56 (tgt := 78) rfl ?_
        refine Y_istore_5 i_X10_all_78 rfl rfl ?_
        refine Y_aload_0 i_X10_all_80 ?_
        refine Y_callVq (k' := kX10_forgets) i_X10_all_81 l_X10_210 m_X10_forgets (c_X10_forgets hk1.1) rfl rfl rfl rfl rfl ?_
        intro r9 M9 hr9
        obtain ⟨rfl, K2, hk2, rfl⟩ := hr9
        refine X_tl0 ?_
        refine Y_iload_5 i_X10_all_84 ?_
        refine X_iret i_X10_all_86 rfl ?_
        exact zay0 (by unfold w_all; (try rw [sFb2_e]); repeat (first | omega | split)) (zvi (by unfold a_all; rw [if_pos (by omega)]; rfl)) (zey_s (sRS_in _ hS t) (hk1.2.tr hk2).mo)
    · refine Y_aload_0 i_X10_all_25 ?_
      refine Y_iload_3 i_X10_all_26 ?_
      refine Y_callV (k' := kX10_no) i_X10_all_27 l_X10_75 m_X10_no (c_X10_no (by omega) (by omega)) rfl rfl rfl rfl rfl ?_
      refine X_iret i_X10_all_30 rfl ?_
      exact zay1 (by unfold w_all; (try rw [sFb2_e]); repeat (first | omega | split)) (by omega) hS
  · refine Y_iload_2 i_X10_all_9 ?_
    refine X_iconst i_X10_all_10 ?_
    refine X_iconst i_X10_all_11 ?_
    refine Y_callS (k' := kX10_isIn) i_X10_all_12 l_X10_86 m_X10_isIn (c_X10_isIn ⟨by omega, by omega⟩ (zR_lit rfl) (zR_lit rfl)) rfl rfl rfl rfl ?_
    refine Y_ifq_ne i_X10_all_15 (tgt := 21) rfl  (fun h15 => ?_) (fun h15 => ?_)
    · refine Y_iload_3 i_X10_all_21 ?_
      refine X_if_eq i_X10_all_22 (tgt := 31) rfl ⟨by omega, by omega⟩ (fun h22 => ?_) (fun h22 => ?_)
      · refine Y_aload_0 i_X10_all_31 ?_
        obtain ⟨t, rfl⟩ : ∃ t : Nat, n = t := ⟨n.toNat, by omega⟩
        have hO := sRun_ok hA t
        refine Y_callVq (k' := kX10_thinks) i_X10_all_32 l_X10_207 m_X10_thinks c_X10_thinks rfl rfl rfl rfl rfl ?_
        intro r9 M9 hr9
        obtain ⟨rfl, K1, hk1, rfl⟩ := hr9
        refine X_tl0 ?_
        refine Y_aload_0 i_X10_all_35 ?_
        refine Y_getI i_X10_all_36 f_X10_161 rfl (zg0 _ _ _ _ _) ?_
        refine Y_istore_4 i_X10_all_39 rfl rfl ?_
        refine Y_aload_0 i_X10_all_41 ?_
        refine Y_iload_1 i_X10_all_42 ?_
        refine Y_callVv (k' := kX10_goes) i_X10_all_43 l_X10_107 m_X10_goes (c_X10_goes hA hS (by omega) (by omega)) rfl rfl rfl rfl rfl ?_
        refine Y_iload_2 i_X10_all_46 ?_
        refine X_iconst i_X10_all_47 ?_
        refine X_icmp_ge i_X10_all_48 (tgt := 59) rfl ⟨by omega, by omega⟩ ⟨by omega, by omega⟩ (fun h48 => ?_) (fun h48 => ?_)
        · refine Y_iload_2 i_X10_all_59 ?_
          refine X_iconst i_X10_all_60 ?_
          refine Y_icmp_ne i_X10_all_61 (tgt := 74) rfl ⟨by omega, by omega⟩ ⟨by omega, by omega⟩ (fun h61 => ?_) (fun h61 => ?_)
          · refine Y_aload_0 i_X10_all_74 ?_
            refine Y_callV (k' := kX10_allThirst) i_X10_all_75 l_X10_213 m_X10_allThirst (c_X10_allThirst (zs_self _ _ _) hO) rfl rfl rfl rfl rfl ?_
            refine Y_istore_5 i_X10_all_78 rfl rfl ?_
            refine Y_aload_0 i_X10_all_80 ?_
            refine Y_callVq (k' := kX10_forgets) i_X10_all_81 l_X10_210 m_X10_forgets (c_X10_forgets hk1.1) rfl rfl rfl rfl rfl ?_
            intro r9 M9 hr9
            obtain ⟨rfl, K2, hk2, rfl⟩ := hr9
            refine X_tl0 ?_
            refine Y_iload_5 i_X10_all_84 ?_
            refine X_iret i_X10_all_86 rfl ?_
            exact zay0 (by unfold w_all; (try rw [sFb2_e]); repeat (first | omega | split)) (zvi (by unfold a_all; rw [if_neg (by omega), if_neg (by omega)]; rw [sRun_G]; rfl)) (zey_s (sRS_in _ hS t) (hk1.2.tr hk2).mo)
          · refine Y_aload_0 i_X10_all_64 ?_
            refine Y_getI i_X10_all_65 f_X10_161 rfl (zg0 _ _ _ _ _) ?_
            refine Y_iload_4 i_X10_all_68 ?_
            refine X_isub i_X10_all_70 ?_
            refine X_goto i_X10_all_71 (tgt := 78) rfl ?_
            refine Y_istore_5 i_X10_all_78 rfl rfl ?_
            refine Y_aload_0 i_X10_all_80 ?_
            refine Y_callVq (k' := kX10_forgets) i_X10_all_81 l_X10_210 m_X10_forgets (c_X10_forgets hk1.1) rfl rfl rfl rfl rfl ?_
            intro r9 M9 hr9
            obtain ⟨rfl, K2, hk2, rfl⟩ := hr9
            refine X_tl0 ?_
            refine Y_iload_5 i_X10_all_84 ?_
            refine X_iret i_X10_all_86 rfl ?_
            exact zay0 (by unfold w_all; (try rw [sFb2_e]); repeat (first | omega | split)) (zvi (by unfold a_all; rw [if_neg (by omega), if_pos (by omega)]; rfl)) (zey_s (sRS_in _ hS t) (hk1.2.tr hk2).mo)
        · refine Y_aload_0 i_X10_all_51 ?_
          refine Y_iload_2 i_X10_all_52 ?_
          refine Y_callV (k' := kX10_manyIn) i_X10_all_53 l_X10_101 m_X10_manyIn (c_X10_manyIn (zs_self _ _ _) hO ⟨by omega, by omega⟩) rfl rfl rfl rfl rfl ?_
          refine X_goto i_X10_all_56 (tgt := 78) rfl ?_
          refine Y_istore_5 i_X10_all_78 rfl rfl ?_
          refine Y_aload_0 i_X10_all_80 ?_
          refine Y_callVq (k' := kX10_forgets) i_X10_all_81 l_X10_210 m_X10_forgets (c_X10_forgets hk1.1) rfl rfl rfl rfl rfl ?_
          intro r9 M9 hr9
          obtain ⟨rfl, K2, hk2, rfl⟩ := hr9
          refine X_tl0 ?_
          refine Y_iload_5 i_X10_all_84 ?_
          refine X_iret i_X10_all_86 rfl ?_
          exact zay0 (by unfold w_all; (try rw [sFb2_e]); repeat (first | omega | split)) (zvi (by unfold a_all; rw [if_pos (by omega)]; rfl)) (zey_s (sRS_in _ hS t) (hk1.2.tr hk2).mo)
      · refine Y_aload_0 i_X10_all_25 ?_
        refine Y_iload_3 i_X10_all_26 ?_
        refine Y_callV (k' := kX10_no) i_X10_all_27 l_X10_75 m_X10_no (c_X10_no (by omega) (by omega)) rfl rfl rfl rfl rfl ?_
        refine X_iret i_X10_all_30 rfl ?_
        exact zay1 (by unfold w_all; (try rw [sFb2_e]); repeat (first | omega | split)) (by omega) hS
    · refine X_bipush i_X10_all_18 (by decide +kernel) ?_
      refine Y_istore_3 i_X10_all_20 rfl rfl ?_
      refine Y_iload_3 i_X10_all_21 ?_
      refine X_if_eq i_X10_all_22 (tgt := 31) rfl ⟨by omega, by omega⟩ (fun h22 => by exfalso; omega) (fun h22 => ?_)
      refine Y_aload_0 i_X10_all_25 ?_
      refine Y_iload_3 i_X10_all_26 ?_
      refine Y_callV (k' := kX10_no) i_X10_all_27 l_X10_75 m_X10_no (c_X10_no (by omega) (by omega)) rfl rfl rfl rfl rfl ?_
      refine X_iret i_X10_all_30 rfl ?_
      exact zay1 (by unfold w_all; (try rw [sFb2_e]); repeat (first | omega | split)) (by omega) hS
set_option maxRecDepth 100000 in
theorem c_X10_leaves {M N : zMem} {S K : zAft} (hA : zOk 999 (N 0)) (hS : zSv S) {x : Int} (h_x : zR x) : zCt kX10_leaves 5 [.ref 38, .int (zii x)] ((zs (zs (zs M 14 S) 13 K) 3 (N 0))) (zAy (w_leaves N x) (.int (zii (w_leaves N x))) (.int (zii (a_leaves N x))) (zs (zs (zs M 14 S) 13 K) 3 (N 0)) (zs (zs (zs M 14 S) 13 K) 3 (N 0))) := by
  have h6 := hA.1
  unfold zH at h6
  have hG := sG_le hA.1
  have b_x := h_x.1
  have c_x := h_x.2
  refine zMet (by decide) (Nat.le_of_ble_eq_true rfl) ?_
  show zX kX10_leaves 5 0 [some (.ref 38), some (.int (zii x))] [] _ _
  refine Y_aload_0 i_X10_leaves_0 ?_
  refine Y_iload_1 i_X10_leaves_1 ?_
  refine Y_callV (k' := kX10_isGuest) i_X10_leaves_2 l_X10_111 m_X10_isGuest (c_X10_isGuest (zs_self _ _ _) hA ⟨by omega, by omega⟩) rfl rfl rfl rfl rfl ?_
  refine Y_ifq_eq i_X10_leaves_5 (tgt := 21) rfl  (fun h5 => ?_) (fun h5 => ?_)
  · refine Y_aload_0 i_X10_leaves_21 ?_
    refine X_iconst i_X10_leaves_22 ?_
    refine Y_callV (k' := kX10_no) i_X10_leaves_23 l_X10_75 m_X10_no (c_X10_no (by omega) (by omega)) rfl rfl rfl rfl rfl ?_
    refine X_iret i_X10_leaves_26 rfl ?_
    exact zay1 (by unfold w_leaves; (try rw [sFb2_e]); repeat (first | omega | split)) (by omega) hS
  · obtain ⟨x9, rfl⟩ : ∃ t : Nat, x = t := ⟨x.toNat, by omega⟩
    have hgb := sGB_one (A := N 0) (x := x9) (by omega) (by omega)
    have hgl := sWh_le (N 0) x9
    refine Y_aload_0 i_X10_leaves_8 ?_
    refine X_iconst i_X10_leaves_9 ?_
    refine Y_iload_1 i_X10_leaves_10 ?_
    refine X_ishl i_X10_leaves_11 ?_
    refine Y_callVq (k' := kX10_goneBy) i_X10_leaves_12 l_X10_222 m_X10_goneBy (c_X10_goneBy hA hS) rfl rfl rfl rfl rfl ?_
    intro r9 M9 hr9
    obtain ⟨rfl, S1, K1, hS1, hk1, rfl⟩ := hr9
    refine X_tl ?_
    rw [hgb]
    refine Y_callS (k' := kX10_orNone) i_X10_leaves_15 l_X10_225 m_X10_orNone (c_X10_orNone ⟨by omega, by omega⟩) rfl rfl rfl rfl ?_
    refine X_goto i_X10_leaves_18 (tgt := 26) rfl ?_
    refine X_iret i_X10_leaves_26 rfl ?_
    exact zay0 (by unfold w_leaves; (try rw [sFb2_e]); repeat (first | omega | split)) (zvi (by unfold a_leaves; rfl)) (zey_s hS1 hk1.mo)
set_option maxRecDepth 100000 in
theorem c_X10_tastes {M N : zMem} {S K : zAft} (hA : zOk 999 (N 0)) (hS : zSv S) {x : Int} (h_x : zR x) : zCt kX10_tastes 5 [.ref 38, .int (zii x)] ((zs (zs (zs M 14 S) 13 K) 3 (N 0))) (zAy (w_tastes N x) (.int (zii (w_tastes N x))) (.int (zii (a_tastes N x))) (zs (zs (zs M 14 S) 13 K) 3 (N 0)) (zs (zs (zs M 14 S) 13 K) 3 (N 0))) := by
  have h6 := hA.1
  unfold zH at h6
  have hG := sG_le hA.1
  have b_x := h_x.1
  have c_x := h_x.2
  refine zMet (by decide) (Nat.le_of_ble_eq_true rfl) ?_
  show zX kX10_tastes 5 0 [some (.ref 38), some (.int (zii x))] [] _ _
  refine Y_aload_0 i_X10_tastes_0 ?_
  refine Y_iload_1 i_X10_tastes_1 ?_
  refine Y_callV (k' := kX10_isGuest) i_X10_tastes_2 l_X10_111 m_X10_isGuest (c_X10_isGuest (zs_self _ _ _) hA ⟨by omega, by omega⟩) rfl rfl rfl rfl rfl ?_
  refine Y_ifq_eq i_X10_tastes_5 (tgt := 16) rfl  (fun h5 => ?_) (fun h5 => ?_)
  · refine Y_aload_0 i_X10_tastes_16 ?_
    refine X_iconst i_X10_tastes_17 ?_
    refine Y_callV (k' := kX10_no) i_X10_tastes_18 l_X10_75 m_X10_no (c_X10_no (by omega) (by omega)) rfl rfl rfl rfl rfl ?_
    refine X_iret i_X10_tastes_21 rfl ?_
    exact zay1 (by unfold w_tastes; (try rw [sFb2_e]); repeat (first | omega | split)) (by omega) hS
  · refine Y_aload_0 i_X10_tastes_8 ?_
    refine Y_iload_1 i_X10_tastes_9 ?_
    refine Y_callVq (k' := kX10_tasteOf) i_X10_tastes_10 l_X10_231 m_X10_tasteOf (c_X10_tasteOf hA hS (by omega) (by omega)) rfl rfl rfl rfl rfl ?_
    intro r9 M9 hr9
    obtain ⟨rfl, S1, K1, hS1, hk1, rfl⟩ := hr9
    refine X_tl ?_
    refine X_goto i_X10_tastes_13 (tgt := 21) rfl ?_
    refine X_iret i_X10_tastes_21 rfl ?_
    exact zay0 (by unfold w_tastes; (try rw [sFb2_e]); repeat (first | omega | split)) (zvi (by unfold a_tastes; rfl)) (zey_s hS1 hk1.mo)
set_option maxRecDepth 100000 in
theorem c_X10_stuck {M N : zMem} {S K : zAft} (hA : zOk 999 (N 0)) (hS : zSv S) : zCt kX10_stuck 5 [.ref 38] ((zs (zs (zs M 14 S) 13 K) 3 (N 0))) (zAy (w_stuck N) (.int (zii (w_stuck N))) (.int (zii (a_stuck N))) (zs (zs (zs M 14 S) 13 K) 3 (N 0)) (zs (zs (zs M 14 S) 13 K) 3 (N 0))) := by
  have h6 := hA.1
  unfold zH at h6
  have hG := sG_le hA.1
  have hO := sRun_ok hA 99
  have m0 := sMany_in hO.1 0
  have m1 := sMany_in hO.1 1
  have m2 := sMany_in hO.1 2
  refine zMet (by decide) (Nat.le_of_ble_eq_true rfl) ?_
  show zX kX10_stuck 5 0 [some (.ref 38), none] [] _ _
  refine Y_aload_0 i_X10_stuck_0 ?_
  refine Y_callVq (k' := kX10_thinks) i_X10_stuck_1 l_X10_207 m_X10_thinks c_X10_thinks rfl rfl rfl rfl rfl ?_
  intro r9 M9 hr9
  obtain ⟨rfl, K1, hk1, rfl⟩ := hr9
  refine X_tl0 ?_
  refine Y_aload_0 i_X10_stuck_4 ?_
  refine X_bipush i_X10_stuck_5 (by decide +kernel) ?_
  refine Y_callVv (k' := kX10_goes) i_X10_stuck_7 l_X10_107 m_X10_goes (c_X10_goes (t := 99) hA hS (by omega) (by omega)) rfl rfl rfl rfl rfl ?_
  refine Y_aload_0 i_X10_stuck_10 ?_
  refine X_iconst i_X10_stuck_11 ?_
  refine Y_callV (k' := kX10_manyIn) i_X10_stuck_12 l_X10_101 m_X10_manyIn (c_X10_manyIn (zs_self _ _ _) hO (zR_lit rfl)) rfl rfl rfl rfl rfl ?_
  refine Y_aload_0 i_X10_stuck_15 ?_
  refine X_iconst i_X10_stuck_16 ?_
  refine Y_callV (k' := kX10_manyIn) i_X10_stuck_17 l_X10_101 m_X10_manyIn (c_X10_manyIn (zs_self _ _ _) hO (zR_lit rfl)) rfl rfl rfl rfl rfl ?_
  refine X_iadd i_X10_stuck_20 ?_
  refine Y_if_ne i_X10_stuck_21 (tgt := 36) rfl ⟨by omega, by omega⟩ (fun h21 => ?_) (fun h21 => ?_)
  · refine X_iconst i_X10_stuck_36 ?_
    refine Y_istore_1 i_X10_stuck_37 rfl rfl ?_
    refine Y_aload_0 i_X10_stuck_38 ?_
    refine Y_callVq (k' := kX10_forgets) i_X10_stuck_39 l_X10_210 m_X10_forgets (c_X10_forgets hk1.1) rfl rfl rfl rfl rfl ?_
    intro r9 M9 hr9
    obtain ⟨rfl, K2, hk2, rfl⟩ := hr9
    refine X_tl0 ?_
    refine Y_iload_1 i_X10_stuck_42 ?_
    refine X_if_eq i_X10_stuck_43 (tgt := 50) rfl ⟨by omega, by omega⟩ (fun h43 => ?_) (fun h43 => by exfalso; omega)
    refine X_iconst i_X10_stuck_50 ?_
    refine X_iret i_X10_stuck_51 rfl ?_
    exact zay0 (by unfold w_stuck; (try rw [sFb2_e]); repeat (first | omega | split)) (zvi (by unfold a_stuck; rw [if_neg (by omega)])) (zey_s (sRS_in _ hS 99) (hk1.2.tr hk2).mo)
  · refine Y_aload_0 i_X10_stuck_24 ?_
    refine X_iconst i_X10_stuck_25 ?_
    refine Y_callV (k' := kX10_manyIn) i_X10_stuck_26 l_X10_101 m_X10_manyIn (c_X10_manyIn (zs_self _ _ _) hO (zR_lit rfl)) rfl rfl rfl rfl rfl ?_
    refine X_if_le i_X10_stuck_29 (tgt := 36) rfl ⟨by omega, by omega⟩ (fun h29 => ?_) (fun h29 => ?_)
    · refine X_iconst i_X10_stuck_36 ?_
      refine Y_istore_1 i_X10_stuck_37 rfl rfl ?_
      refine Y_aload_0 i_X10_stuck_38 ?_
      refine Y_callVq (k' := kX10_forgets) i_X10_stuck_39 l_X10_210 m_X10_forgets (c_X10_forgets hk1.1) rfl rfl rfl rfl rfl ?_
      intro r9 M9 hr9
      obtain ⟨rfl, K2, hk2, rfl⟩ := hr9
      refine X_tl0 ?_
      refine Y_iload_1 i_X10_stuck_42 ?_
      refine X_if_eq i_X10_stuck_43 (tgt := 50) rfl ⟨by omega, by omega⟩ (fun h43 => ?_) (fun h43 => by exfalso; omega)
      refine X_iconst i_X10_stuck_50 ?_
      refine X_iret i_X10_stuck_51 rfl ?_
      exact zay0 (by unfold w_stuck; (try rw [sFb2_e]); repeat (first | omega | split)) (zvi (by unfold a_stuck; rw [if_neg (by omega)])) (zey_s (sRS_in _ hS 99) (hk1.2.tr hk2).mo)
    · refine X_iconst i_X10_stuck_32 ?_
      refine X_goto i_X10_stuck_33 (tgt := 37) rfl ?_
      refine Y_istore_1 i_X10_stuck_37 rfl rfl ?_
      refine Y_aload_0 i_X10_stuck_38 ?_
      refine Y_callVq (k' := kX10_forgets) i_X10_stuck_39 l_X10_210 m_X10_forgets (c_X10_forgets hk1.1) rfl rfl rfl rfl rfl ?_
      intro r9 M9 hr9
      obtain ⟨rfl, K2, hk2, rfl⟩ := hr9
      refine X_tl0 ?_
      refine Y_iload_1 i_X10_stuck_42 ?_
      refine X_if_eq i_X10_stuck_43 (tgt := 50) rfl ⟨by omega, by omega⟩ (fun h43 => by exfalso; omega) (fun h43 => ?_)
      refine X_iconst i_X10_stuck_46 ?_
      refine X_goto i_X10_stuck_47 (tgt := 51) rfl ?_
      refine X_iret i_X10_stuck_51 rfl ?_
      exact zay0 (by unfold w_stuck; (try rw [sFb2_e]); repeat (first | omega | split)) (zvi (by unfold a_stuck; rw [if_pos (by omega)])) (zey_s (sRS_in _ hS 99) (hk1.2.tr hk2).mo)
theorem sDry_in (R : zAft) : ∀ n : Nat, 0 ≤ sDry R n ∧ sDry R n ≤ n := by
  intro n
  induction n with
  | zero => simp [sDry]
  | succ n ih => simp only [sDry]; split <;> omega
set_option maxRecDepth 100000 in
theorem c_X10_dry {M N : zMem} {S K : zAft} (hA : zOk 999 (N 0)) (hS : zSv S) {n : Int} (h_n : zR n) : zCt kX10_dry 5 [.ref 38, .int (zii n)] ((zs (zs (zs M 14 S) 13 K) 3 (N 0))) (zAy (w_dry N n) (.int (zii (w_dry N n))) (.int (zii (a_dry N n))) (zs (zs (zs M 14 S) 13 K) 3 (N 0)) (zs (zs (zs M 14 S) 13 K) 3 (N 0))) := by
  have h6 := hA.1
  unfold zH at h6
  have hG := sG_le hA.1
  have b_n := h_n.1
  have c_n := h_n.2
  have hfa := sFa_in n
  refine zMet (by decide) (Nat.le_of_ble_eq_true rfl) ?_
  show zX kX10_dry 5 0 [some (.ref 38), some (.int (zii n)), none, none, none] [] _ _
  refine Y_iload_1 i_X10_dry_0 ?_
  refine Y_callS (k' := kX10_notMinutes) i_X10_dry_1 l_X10_204 m_X10_notMinutes (c_X10_notMinutes ⟨by omega, by omega⟩) rfl rfl rfl rfl ?_
  refine Y_istore_2 i_X10_dry_4 rfl rfl ?_
  refine Y_iload_2 i_X10_dry_5 ?_
  refine X_if_eq i_X10_dry_6 (tgt := 15) rfl ⟨by omega, by omega⟩ (fun h6 => ?_) (fun h6 => ?_)
  · refine Y_aload_0 i_X10_dry_15 ?_
    obtain ⟨t, rfl⟩ : ∃ t : Nat, n = t := ⟨n.toNat, by omega⟩
    refine Y_callVq (k' := kX10_thinks) i_X10_dry_16 l_X10_207 m_X10_thinks c_X10_thinks rfl rfl rfl rfl rfl ?_
    intro r9 M9 hr9
    obtain ⟨rfl, K1, hk1, rfl⟩ := hr9
    refine X_tl0 ?_
    refine Y_aload_0 i_X10_dry_19 ?_
    refine Y_iload_1 i_X10_dry_20 ?_
    refine Y_callVv (k' := kX10_goes) i_X10_dry_21 l_X10_107 m_X10_goes (c_X10_goes hA hS (by omega) (by omega)) rfl rfl rfl rfl rfl ?_
    refine X_iconst i_X10_dry_24 ?_
    refine Y_istore_3 i_X10_dry_25 rfl rfl ?_
    refine X_iconst i_X10_dry_26 ?_
    refine Y_istore_4 i_X10_dry_27 rfl rfl ?_
    have hO := sRun_ok hA t
    have h60 : sRun (N 0) t 6 0 = N 0 6 0 := sRun_6 _ _ (by decide) (by decide) t
    have loop : ∀ (n : Nat) (g : Nat), g + n = sG (N 0) → zX kX10_dry 5 29 [some (.ref 38), some (.int (zii (t : Nat))), some (.int (zii (sFa (t : Nat)))), some (.int (zii (sDry (sRun (N 0) t) g))), some (.int (zii g))] [] (zs (zs (zs M 14 (sRS (N 0) S t)) 13 K1) 3 (sRun (N 0) t)) (zAy (w_dry N (t : Nat)) (.int (zii (w_dry N (t : Nat)))) (.int (zii (a_dry N (t : Nat)))) (zs (zs (zs M 14 S) 13 K) 3 (N 0)) (zs (zs (zs M 14 S) 13 K) 3 (N 0))) := by
      intro n
      induction n with
      | zero =>
        intro g  hg 
        obtain rfl : g = sG (N 0) := by omega
        refine Y_iload_4 i_X10_dry_29 ?_
        refine Y_aload_0 i_X10_dry_31 ?_
        refine Y_getI i_X10_dry_32 f_X10_65 rfl (zg0 _ _ _ _ _) ?_
        refine X_icmp_ge i_X10_dry_35 (tgt := 73) rfl ⟨by omega, by omega⟩ ⟨by omega, by omega⟩ (fun h35 => ?_) (fun h35 => by exfalso; omega)
        refine Y_aload_0 i_X10_dry_73 ?_
        refine Y_callVq (k' := kX10_forgets) i_X10_dry_74 l_X10_210 m_X10_forgets (c_X10_forgets hk1.1) rfl rfl rfl rfl rfl ?_
        intro r9 M9 hr9
        obtain ⟨rfl, K2, hk2, rfl⟩ := hr9
        refine X_tl0 ?_
        refine Y_iload_3 i_X10_dry_77 ?_
        refine X_iret i_X10_dry_78 rfl ?_
        exact zay0 (by unfold w_dry; (try rw [sFb2_e]); repeat (first | omega | split)) (zvi rfl) (zey_s (sRS_in _ hS t) (hk1.2.tr hk2).mo)
      | succ n ih =>
        intro g  hg 
        have hgg := hO.2 g (by omega) (by omega)
        unfold zG at hgg
        have hd9 := sDry_in (sRun (N 0) t) g
        refine Y_iload_4 i_X10_dry_29 ?_
        refine Y_aload_0 i_X10_dry_31 ?_
        refine Y_getI i_X10_dry_32 f_X10_65 rfl (zg0 _ _ _ _ _) ?_
        refine X_icmp_ge i_X10_dry_35 (tgt := 73) rfl ⟨by omega, by omega⟩ ⟨by omega, by omega⟩ (fun h35 => by exfalso; omega) (fun h35 => ?_)
        refine Y_iload_3 i_X10_dry_38 ?_
        refine Y_aload_0 i_X10_dry_39 ?_
        refine X_getR i_X10_dry_40 f_X10_22 rfl ?_
        refine Y_iload_4 i_X10_dry_43 ?_
        refine Y_iald i_X10_dry_45 rfl ⟨by omega, by omega⟩ rfl (zg0 _ _ _ _ _) ?_
        refine X_iconst i_X10_dry_46 ?_
        refine Y_icmp_ne i_X10_dry_47 (tgt := 64) rfl ⟨by omega, by omega⟩ ⟨by omega, by omega⟩ (fun h47 => ?_) (fun h47 => ?_)
        · refine X_iconst i_X10_dry_64 ?_
          refine X_iadd i_X10_dry_65 ?_
          refine Y_istore_3 i_X10_dry_66 rfl rfl ?_
          refine Y_iinc_4 i_X10_dry_67 rfl rfl ?_
          refine X_goto i_X10_dry_70 (tgt := 29) rfl ?_
          exact X_eq (ih (g + 1) (by omega)) (by simp only [sDry]; rw [if_neg (by omega)]; first | rfl | simp) rfl rfl
        · refine Y_aload_0 i_X10_dry_50 ?_
          refine X_getR i_X10_dry_51 f_X10_28 rfl ?_
          refine Y_iload_4 i_X10_dry_54 ?_
          refine Y_iald i_X10_dry_56 rfl ⟨by omega, by omega⟩ rfl (zg0 _ _ _ _ _) ?_
          refine Y_if_ne i_X10_dry_57 (tgt := 64) rfl ⟨by omega, by omega⟩ (fun h57 => ?_) (fun h57 => ?_)
          · refine X_iconst i_X10_dry_64 ?_
            refine X_iadd i_X10_dry_65 ?_
            refine Y_istore_3 i_X10_dry_66 rfl rfl ?_
            refine Y_iinc_4 i_X10_dry_67 rfl rfl ?_
            refine X_goto i_X10_dry_70 (tgt := 29) rfl ?_
            exact X_eq (ih (g + 1) (by omega)) (by simp only [sDry]; rw [if_neg (by omega)]; first | rfl | simp) rfl rfl
          · refine X_iconst i_X10_dry_60 ?_
            refine X_goto i_X10_dry_61 (tgt := 65) rfl ?_
            refine X_iadd i_X10_dry_65 ?_
            refine Y_istore_3 i_X10_dry_66 rfl rfl ?_
            refine Y_iinc_4 i_X10_dry_67 rfl rfl ?_
            refine X_goto i_X10_dry_70 (tgt := 29) rfl ?_
            exact X_eq (ih (g + 1) (by omega)) (by simp only [sDry]; rw [if_pos (by omega)]; first | rfl | simp) rfl rfl
    exact loop (sG (N 0)) 0 (by omega)
  · refine Y_aload_0 i_X10_dry_9 ?_
    refine Y_iload_2 i_X10_dry_10 ?_
    refine Y_callV (k' := kX10_no) i_X10_dry_11 l_X10_75 m_X10_no (c_X10_no (by omega) (by omega)) rfl rfl rfl rfl rfl ?_
    refine X_iret i_X10_dry_14 rfl ?_
    exact zay1 (by unfold w_dry; (try rw [sFb2_e]); repeat (first | omega | split)) (by omega) hS
theorem sSum_in {f : Nat → Int} {c : Int} (h : ∀ i, 0 ≤ f i ∧ f i ≤ c) : ∀ n : Nat, 0 ≤ sSum f n ∧ sSum f n ≤ c * n := by
  intro n
  induction n with
  | zero => simp [sSum]
  | succ n ih =>
    have := h n
    have e : c * ((n + 1 : Nat) : Int) = c * n + c := by rw [Int.natCast_add, Int.mul_add]; simp
    simp only [sSum]; omega
set_option maxRecDepth 100000 in
theorem c_X10_company {M N : zMem} {S K : zAft} (hA : zOk 999 (N 0)) (hS : zSv S) {x : Int} (h_x : zR x) {y : Int} (h_y : zR y) {n : Int} (h_n : zR n) : zCt kX10_company 4 [.ref 38, .int (zii x), .int (zii y), .int (zii n)] ((zs (zs (zs M 14 S) 13 K) 3 (N 0))) (zAy (w_company N x y n) (.int (zii (w_company N x y n))) (.int (zii (a_company N x y n))) (zs (zs (zs M 14 S) 13 K) 3 (N 0)) (zs (zs (zs M 14 S) 13 K) 3 (N 0))) := by
  have h6 := hA.1
  unfold zH at h6
  have hG := sG_le hA.1
  have b_x := h_x.1
  have c_x := h_x.2
  have b_y := h_y.1
  have c_y := h_y.2
  have b_n := h_n.1
  have c_n := h_n.2
  have hfa := sFa_in n
  refine zMet (by decide) (Nat.le_of_ble_eq_true rfl) ?_
  show zX kX10_company 4 0 [some (.ref 38), some (.int (zii x)), some (.int (zii y)), some (.int (zii n)), none, none, none] [] _ _
  refine Y_aload_0 i_X10_company_0 ?_
  refine Y_iload_1 i_X10_company_1 ?_
  refine Y_callV (k' := kX10_isGuest) i_X10_company_2 l_X10_111 m_X10_isGuest (c_X10_isGuest (zs_self _ _ _) hA ⟨by omega, by omega⟩) rfl rfl rfl rfl rfl ?_
  refine Y_ifq_eq i_X10_company_5 (tgt := 21) rfl  (fun h5 => ?_) (fun h5 => ?_)
  · refine X_iconst i_X10_company_21 ?_
    refine X_goto i_X10_company_22 (tgt := 29) rfl ?_
    refine Y_istore_4 i_X10_company_29 rfl rfl ?_
    refine Y_iload_4 i_X10_company_31 ?_
    refine X_if_eq i_X10_company_33 (tgt := 43) rfl ⟨by omega, by omega⟩ (fun h33 => by exfalso; omega) (fun h33 => ?_)
    refine Y_aload_0 i_X10_company_36 ?_
    refine Y_iload_4 i_X10_company_37 ?_
    refine Y_callV (k' := kX10_no) i_X10_company_39 l_X10_75 m_X10_no (c_X10_no (by omega) (by omega)) rfl rfl rfl rfl rfl ?_
    refine X_iret i_X10_company_42 rfl ?_
    exact zay1 (by unfold w_company; (try rw [sFb2_e]); repeat (first | omega | split)) (by omega) hS
  · refine Y_aload_0 i_X10_company_8 ?_
    refine Y_iload_2 i_X10_company_9 ?_
    refine Y_callV (k' := kX10_isGuest) i_X10_company_10 l_X10_111 m_X10_isGuest (c_X10_isGuest (zs_self _ _ _) hA ⟨by omega, by omega⟩) rfl rfl rfl rfl rfl ?_
    refine Y_ifq_eq i_X10_company_13 (tgt := 21) rfl  (fun h13 => ?_) (fun h13 => ?_)
    · refine X_iconst i_X10_company_21 ?_
      refine X_goto i_X10_company_22 (tgt := 29) rfl ?_
      refine Y_istore_4 i_X10_company_29 rfl rfl ?_
      refine Y_iload_4 i_X10_company_31 ?_
      refine X_if_eq i_X10_company_33 (tgt := 43) rfl ⟨by omega, by omega⟩ (fun h33 => by exfalso; omega) (fun h33 => ?_)
      refine Y_aload_0 i_X10_company_36 ?_
      refine Y_iload_4 i_X10_company_37 ?_
      refine Y_callV (k' := kX10_no) i_X10_company_39 l_X10_75 m_X10_no (c_X10_no (by omega) (by omega)) rfl rfl rfl rfl rfl ?_
      refine X_iret i_X10_company_42 rfl ?_
      exact zay1 (by unfold w_company; (try rw [sFb2_e]); repeat (first | omega | split)) (by omega) hS
    · refine Y_iload_1 i_X10_company_16 ?_
      refine Y_iload_2 i_X10_company_17 ?_
      refine Y_icmp_ne i_X10_company_18 (tgt := 25) rfl ⟨by omega, by omega⟩ ⟨by omega, by omega⟩ (fun h18 => ?_) (fun h18 => ?_)
      · refine Y_iload_3 i_X10_company_25 ?_
        refine Y_callS (k' := kX10_notMinutes) i_X10_company_26 l_X10_204 m_X10_notMinutes (c_X10_notMinutes ⟨by omega, by omega⟩) rfl rfl rfl rfl ?_
        refine Y_istore_4 i_X10_company_29 rfl rfl ?_
        refine Y_iload_4 i_X10_company_31 ?_
        refine X_if_eq i_X10_company_33 (tgt := 43) rfl ⟨by omega, by omega⟩ (fun h33 => ?_) (fun h33 => ?_)
        · refine Y_aload_0 i_X10_company_43 ?_
          obtain ⟨t, rfl⟩ : ∃ t : Nat, n = t := ⟨n.toNat, by omega⟩
          refine Y_callVq (k' := kX10_thinks) i_X10_company_44 l_X10_207 m_X10_thinks c_X10_thinks rfl rfl rfl rfl rfl ?_
          intro r9 M9 hr9
          obtain ⟨rfl, K1, hk1, rfl⟩ := hr9
          refine X_tl0 ?_
          refine X_iconst i_X10_company_47 ?_
          refine Y_istore_5 i_X10_company_48 rfl rfl ?_
          refine X_iconst i_X10_company_50 ?_
          refine Y_istore_6 i_X10_company_51 rfl rfl ?_
          have loop : ∀ (n : Nat) (j : Nat), j + n = t → zX kX10_company 4 53 [some (.ref 38), some (.int (zii x)), some (.int (zii y)), some (.int (zii (t : Nat))), some (.int (zii (sFa (t : Nat)))), some (.int (zii (sSum (s_X7_bothDrinking (N 0) x y) j))), some (.int (zii j))] [] (zs (zs (zs M 14 (sRS (N 0) S j)) 13 K1) 3 (sRun (N 0) j)) (zAy (w_company N x y (t : Nat)) (.int (zii (w_company N x y (t : Nat)))) (.int (zii (a_company N x y (t : Nat)))) (zs (zs (zs M 14 S) 13 K) 3 (N 0)) (zs (zs (zs M 14 S) 13 K) 3 (N 0))) := by
            intro n
            induction n with
            | zero =>
              intro j  hg 
              obtain rfl : j = t := by omega
              refine Y_iload_6 i_X10_company_53 ?_
              refine Y_iload_3 i_X10_company_55 ?_
              refine X_icmp_ge i_X10_company_56 (tgt := 100) rfl ⟨by omega, by omega⟩ ⟨by omega, by omega⟩ (fun h56 => ?_) (fun h56 => by exfalso; omega)
              refine Y_aload_0 i_X10_company_100 ?_
              refine Y_callVq (k' := kX10_forgets) i_X10_company_101 l_X10_210 m_X10_forgets (c_X10_forgets hk1.1) rfl rfl rfl rfl rfl ?_
              intro r9 M9 hr9
              obtain ⟨rfl, K2, hk2, rfl⟩ := hr9
              refine X_tl0 ?_
              refine Y_iload_5 i_X10_company_104 ?_
              refine X_iret i_X10_company_106 rfl ?_
              exact zay0 (by unfold w_company; (try rw [sFb2_e]); repeat (first | omega | split)) (zvi rfl) (zey_s (sRS_in _ hS _) (hk1.2.tr hk2).mo)
            | succ n ih =>
              intro j  hg 
              have hO := sRun_ok hA j
              have hO1 := sRun_ok hA (j + 1)
              have hgx : zG (sMin (sRun (N 0) j)) x := hO1.2 x (by omega) (by omega)
              unfold zG at hgx
              have hgy : zG (sMin (sRun (N 0) j)) y := hO1.2 y (by omega) (by omega)
              unfold zG at hgy
              refine Y_iload_6 i_X10_company_53 ?_
              refine Y_iload_3 i_X10_company_55 ?_
              refine X_icmp_ge i_X10_company_56 (tgt := 100) rfl ⟨by omega, by omega⟩ ⟨by omega, by omega⟩ (fun h56 => by exfalso; omega) (fun h56 => ?_)
              refine Y_aload_0 i_X10_company_59 ?_
              refine X_iconst i_X10_company_60 ?_
              refine Y_callVv (k' := kX10_goesMinute) i_X10_company_61 l_X10_197 m_X10_goesMinute (c_X10_goesMinute hO (sRS_in _ hS j) (by omega)) rfl rfl rfl rfl rfl ?_
              refine Y_iload_5 i_X10_company_64 ?_
              refine Y_aload_0 i_X10_company_66 ?_
              refine X_getR i_X10_company_67 f_X10_22 rfl ?_
              refine Y_iload_1 i_X10_company_70 ?_
              refine Y_iald i_X10_company_71 rfl ⟨by omega, by omega⟩ rfl (zg0 _ _ _ _ _) ?_
              refine X_iconst i_X10_company_72 ?_
              refine Y_icmp_ne i_X10_company_73 (tgt := 90) rfl ⟨by omega, by omega⟩ ⟨by omega, by omega⟩ (fun h73 => ?_) (fun h73 => ?_)
              · refine X_iconst i_X10_company_90 ?_
                refine X_iadd i_X10_company_91 ?_
                refine Y_istore_5 i_X10_company_92 rfl rfl ?_
                refine Y_iinc_6 i_X10_company_94 rfl rfl ?_
                refine X_goto i_X10_company_97 (tgt := 53) rfl ?_
                exact X_eq (ih (j + 1) (by omega)) (by simp only [sSum, s_X7_bothDrinking]; rw [if_neg (fun z => h73 z.1)]; rfl) rfl rfl
              · refine Y_aload_0 i_X10_company_76 ?_
                refine X_getR i_X10_company_77 f_X10_22 rfl ?_
                refine Y_iload_2 i_X10_company_80 ?_
                refine Y_iald i_X10_company_81 rfl ⟨by omega, by omega⟩ rfl (zg0 _ _ _ _ _) ?_
                refine X_iconst i_X10_company_82 ?_
                refine Y_icmp_ne i_X10_company_83 (tgt := 90) rfl ⟨by omega, by omega⟩ ⟨by omega, by omega⟩ (fun h83 => ?_) (fun h83 => ?_)
                · refine X_iconst i_X10_company_90 ?_
                  refine X_iadd i_X10_company_91 ?_
                  refine Y_istore_5 i_X10_company_92 rfl rfl ?_
                  refine Y_iinc_6 i_X10_company_94 rfl rfl ?_
                  refine X_goto i_X10_company_97 (tgt := 53) rfl ?_
                  exact X_eq (ih (j + 1) (by omega)) (by simp only [sSum, s_X7_bothDrinking]; rw [if_neg (fun z => h83 z.2)]; rfl) rfl rfl
                · refine X_iconst i_X10_company_86 ?_
                  refine X_goto i_X10_company_87 (tgt := 91) rfl ?_
                  refine X_iadd i_X10_company_91 ?_
                  refine Y_istore_5 i_X10_company_92 rfl rfl ?_
                  refine Y_iinc_6 i_X10_company_94 rfl rfl ?_
                  refine X_goto i_X10_company_97 (tgt := 53) rfl ?_
                  exact X_eq (ih (j + 1) (by omega)) (by simp only [sSum, s_X7_bothDrinking]; rw [if_pos ⟨h73, h83⟩]; rfl) rfl rfl
          exact loop t 0 (by omega)
        · refine Y_aload_0 i_X10_company_36 ?_
          refine Y_iload_4 i_X10_company_37 ?_
          refine Y_callV (k' := kX10_no) i_X10_company_39 l_X10_75 m_X10_no (c_X10_no (by omega) (by omega)) rfl rfl rfl rfl rfl ?_
          refine X_iret i_X10_company_42 rfl ?_
          exact zay1 (by unfold w_company; (try rw [sFb2_e]); repeat (first | omega | split)) (by omega) hS
      · refine X_iconst i_X10_company_21 ?_
        refine X_goto i_X10_company_22 (tgt := 29) rfl ?_
        refine Y_istore_4 i_X10_company_29 rfl rfl ?_
        refine Y_iload_4 i_X10_company_31 ?_
        refine X_if_eq i_X10_company_33 (tgt := 43) rfl ⟨by omega, by omega⟩ (fun h33 => by exfalso; omega) (fun h33 => ?_)
        refine Y_aload_0 i_X10_company_36 ?_
        refine Y_iload_4 i_X10_company_37 ?_
        refine Y_callV (k' := kX10_no) i_X10_company_39 l_X10_75 m_X10_no (c_X10_no (by omega) (by omega)) rfl rfl rfl rfl rfl ?_
        refine X_iret i_X10_company_42 rfl ?_
        exact zay1 (by unfold w_company; (try rw [sFb2_e]); repeat (first | omega | split)) (by omega) hS
set_option maxRecDepth 100000 in
theorem c_X10_waited {M N : zMem} {S K : zAft} (hA : zOk 999 (N 0)) (hS : zSv S) {n : Int} (h_n : zR n) {w : Int} (h_w : zR w) : zCt kX10_waited 4 [.ref 38, .int (zii n), .int (zii w)] ((zs (zs (zs M 14 S) 13 K) 3 (N 0))) (zAy (w_waited N n w) (.int (zii (w_waited N n w))) (.int (zii (a_waited N n w))) (zs (zs (zs M 14 S) 13 K) 3 (N 0)) (zs (zs (zs M 14 S) 13 K) 3 (N 0))) := by
  have h6 := hA.1
  unfold zH at h6
  have hG := sG_le hA.1
  have b_n := h_n.1
  have c_n := h_n.2
  have b_w := h_w.1
  have c_w := h_w.2
  have hfa := sFa_in n
  refine zMet (by decide) (Nat.le_of_ble_eq_true rfl) ?_
  show zX kX10_waited 4 0 [some (.ref 38), some (.int (zii n)), some (.int (zii w)), none, none, none] [] _ _
  refine Y_iload_1 i_X10_waited_0 ?_
  refine Y_callS (k' := kX10_notMinutes) i_X10_waited_1 l_X10_204 m_X10_notMinutes (c_X10_notMinutes ⟨by omega, by omega⟩) rfl rfl rfl rfl ?_
  refine Y_istore_3 i_X10_waited_4 rfl rfl ?_
  refine Y_iload_3 i_X10_waited_5 ?_
  refine Y_if_ne i_X10_waited_6 (tgt := 21) rfl ⟨by omega, by omega⟩ (fun h6 => ?_) (fun h6 => ?_)
  · refine Y_iload_3 i_X10_waited_21 ?_
    refine X_if_eq i_X10_waited_22 (tgt := 31) rfl ⟨by omega, by omega⟩ (fun h22 => ?_) (fun h22 => ?_)
    · refine Y_aload_0 i_X10_waited_31 ?_
      obtain ⟨t, rfl⟩ : ∃ t : Nat, n = t := ⟨n.toNat, by omega⟩
      refine Y_callVq (k' := kX10_thinks) i_X10_waited_32 l_X10_207 m_X10_thinks c_X10_thinks rfl rfl rfl rfl rfl ?_
      intro r9 M9 hr9
      obtain ⟨rfl, K1, hk1, rfl⟩ := hr9
      refine X_tl0 ?_
      refine X_iconst i_X10_waited_35 ?_
      refine Y_istore_4 i_X10_waited_36 rfl rfl ?_
      refine X_iconst i_X10_waited_38 ?_
      refine Y_istore_5 i_X10_waited_39 rfl rfl ?_
      have loop : ∀ (n : Nat) (j : Nat), j + n = t → zX kX10_waited 4 41 [some (.ref 38), some (.int (zii (t : Nat))), some (.int (zii w)), some (.int (zii (sFa (t : Nat)))), some (.int (zii (if w = 0 then sSum (s_X7_minutesStood (N 0)) j else sSum (s_X7_cupsIdle (N 0)) j))), some (.int (zii j))] [] (zs (zs (zs M 14 (sRS (N 0) S j)) 13 K1) 3 (sRun (N 0) j)) (zAy (w_waited N (t : Nat) w) (.int (zii (w_waited N (t : Nat) w))) (.int (zii (a_waited N (t : Nat) w))) (zs (zs (zs M 14 S) 13 K) 3 (N 0)) (zs (zs (zs M 14 S) 13 K) 3 (N 0))) := by
        intro n
        induction n with
        | zero =>
          intro j  hg 
          obtain rfl : j = t := by omega
          refine Y_iload_5 i_X10_waited_41 ?_
          refine Y_iload_1 i_X10_waited_43 ?_
          refine X_icmp_ge i_X10_waited_44 (tgt := 85) rfl ⟨by omega, by omega⟩ ⟨by omega, by omega⟩ (fun h44 => ?_) (fun h44 => by exfalso; omega)
          refine Y_aload_0 i_X10_waited_85 ?_
          refine Y_callVq (k' := kX10_forgets) i_X10_waited_86 l_X10_210 m_X10_forgets (c_X10_forgets hk1.1) rfl rfl rfl rfl rfl ?_
          intro r9 M9 hr9
          obtain ⟨rfl, K2, hk2, rfl⟩ := hr9
          refine X_tl0 ?_
          refine Y_iload_4 i_X10_waited_89 ?_
          refine X_iret i_X10_waited_91 rfl ?_
          exact zay0 (by unfold w_waited; (try rw [sFb2_e]); repeat (first | omega | split)) (zvi rfl) (zey_s (sRS_in _ hS _) (hk1.2.tr hk2).mo)
        | succ n ih =>
          intro j  hg 
          have hO := sRun_ok hA j
          have hO1 := sRun_ok hA (j + 1)
      
          refine Y_iload_5 i_X10_waited_41 ?_
          refine Y_iload_1 i_X10_waited_43 ?_
          refine X_icmp_ge i_X10_waited_44 (tgt := 85) rfl ⟨by omega, by omega⟩ ⟨by omega, by omega⟩ (fun h44 => by exfalso; omega) (fun h44 => ?_)
          refine Y_aload_0 i_X10_waited_47 ?_
          refine X_iconst i_X10_waited_48 ?_
          refine Y_callVv (k' := kX10_goesMinute) i_X10_waited_49 l_X10_197 m_X10_goesMinute (c_X10_goesMinute hO (sRS_in _ hS j) (by omega)) rfl rfl rfl rfl rfl ?_
          refine Y_iload_4 i_X10_waited_52 ?_
          refine Y_iload_2 i_X10_waited_54 ?_
          refine Y_if_ne i_X10_waited_55 (tgt := 66) rfl ⟨by omega, by omega⟩ (fun h55 => ?_) (fun h55 => ?_)
          · refine Y_aload_0 i_X10_waited_66 ?_
            refine Y_getI i_X10_waited_67 f_X10_58 rfl (zg0 _ _ _ _ _) ?_
            refine Y_aload_0 i_X10_waited_70 ?_
            refine X_iconst i_X10_waited_71 ?_
            refine Y_callV (k' := kX10_manyIn) i_X10_waited_72 l_X10_101 m_X10_manyIn (c_X10_manyIn (zs_self _ _ _) hO1 (zR_lit rfl)) rfl rfl rfl rfl rfl ?_
            refine X_isub i_X10_waited_75 ?_
            refine X_iadd i_X10_waited_76 ?_
            refine Y_istore_4 i_X10_waited_77 rfl rfl ?_
            refine Y_iinc_5 i_X10_waited_79 rfl rfl ?_
            refine X_goto i_X10_waited_82 (tgt := 41) rfl ?_
            exact X_eq (ih (j + 1) (by omega)) (by rw [if_neg h55, if_neg h55]; rfl) rfl rfl
          · refine Y_aload_0 i_X10_waited_58 ?_
            refine X_iconst i_X10_waited_59 ?_
            refine Y_callV (k' := kX10_manyIn) i_X10_waited_60 l_X10_101 m_X10_manyIn (c_X10_manyIn (zs_self _ _ _) hO1 (zR_lit rfl)) rfl rfl rfl rfl rfl ?_
            refine X_goto i_X10_waited_63 (tgt := 76) rfl ?_
            refine X_iadd i_X10_waited_76 ?_
            refine Y_istore_4 i_X10_waited_77 rfl rfl ?_
            refine Y_iinc_5 i_X10_waited_79 rfl rfl ?_
            refine X_goto i_X10_waited_82 (tgt := 41) rfl ?_
            exact X_eq (ih (j + 1) (by omega)) (by rw [if_pos h55, if_pos h55]; rfl) rfl rfl
      exact X_eq (loop t 0 (by omega)) (by split <;> rfl) rfl rfl
    · refine Y_aload_0 i_X10_waited_25 ?_
      refine Y_iload_3 i_X10_waited_26 ?_
      refine Y_callV (k' := kX10_no) i_X10_waited_27 l_X10_75 m_X10_no (c_X10_no (by omega) (by omega)) rfl rfl rfl rfl rfl ?_
      refine X_iret i_X10_waited_30 rfl ?_
      exact zay1 (by unfold w_waited; (try rw [sFb2_e]); repeat (first | omega | split)) (by omega) hS
  · refine Y_iload_2 i_X10_waited_9 ?_
    refine X_iconst i_X10_waited_10 ?_
    refine X_iconst i_X10_waited_11 ?_
    refine Y_callS (k' := kX10_isIn) i_X10_waited_12 l_X10_86 m_X10_isIn (c_X10_isIn ⟨by omega, by omega⟩ (zR_lit rfl) (zR_lit rfl)) rfl rfl rfl rfl ?_
    refine Y_ifq_ne i_X10_waited_15 (tgt := 21) rfl  (fun h15 => ?_) (fun h15 => ?_)
    · refine Y_iload_3 i_X10_waited_21 ?_
      refine X_if_eq i_X10_waited_22 (tgt := 31) rfl ⟨by omega, by omega⟩ (fun h22 => ?_) (fun h22 => ?_)
      · refine Y_aload_0 i_X10_waited_31 ?_
        obtain ⟨t, rfl⟩ : ∃ t : Nat, n = t := ⟨n.toNat, by omega⟩
        refine Y_callVq (k' := kX10_thinks) i_X10_waited_32 l_X10_207 m_X10_thinks c_X10_thinks rfl rfl rfl rfl rfl ?_
        intro r9 M9 hr9
        obtain ⟨rfl, K1, hk1, rfl⟩ := hr9
        refine X_tl0 ?_
        refine X_iconst i_X10_waited_35 ?_
        refine Y_istore_4 i_X10_waited_36 rfl rfl ?_
        refine X_iconst i_X10_waited_38 ?_
        refine Y_istore_5 i_X10_waited_39 rfl rfl ?_
        have loop : ∀ (n : Nat) (j : Nat), j + n = t → zX kX10_waited 4 41 [some (.ref 38), some (.int (zii (t : Nat))), some (.int (zii w)), some (.int (zii (sFa (t : Nat)))), some (.int (zii (if w = 0 then sSum (s_X7_minutesStood (N 0)) j else sSum (s_X7_cupsIdle (N 0)) j))), some (.int (zii j))] [] (zs (zs (zs M 14 (sRS (N 0) S j)) 13 K1) 3 (sRun (N 0) j)) (zAy (w_waited N (t : Nat) w) (.int (zii (w_waited N (t : Nat) w))) (.int (zii (a_waited N (t : Nat) w))) (zs (zs (zs M 14 S) 13 K) 3 (N 0)) (zs (zs (zs M 14 S) 13 K) 3 (N 0))) := by
          intro n
          induction n with
          | zero =>
            intro j  hg 
            obtain rfl : j = t := by omega
            refine Y_iload_5 i_X10_waited_41 ?_
            refine Y_iload_1 i_X10_waited_43 ?_
            refine X_icmp_ge i_X10_waited_44 (tgt := 85) rfl ⟨by omega, by omega⟩ ⟨by omega, by omega⟩ (fun h44 => ?_) (fun h44 => by exfalso; omega)
            refine Y_aload_0 i_X10_waited_85 ?_
            refine Y_callVq (k' := kX10_forgets) i_X10_waited_86 l_X10_210 m_X10_forgets (c_X10_forgets hk1.1) rfl rfl rfl rfl rfl ?_
            intro r9 M9 hr9
            obtain ⟨rfl, K2, hk2, rfl⟩ := hr9
            refine X_tl0 ?_
            refine Y_iload_4 i_X10_waited_89 ?_
            refine X_iret i_X10_waited_91 rfl ?_
            exact zay0 (by unfold w_waited; (try rw [sFb2_e]); repeat (first | omega | split)) (zvi rfl) (zey_s (sRS_in _ hS _) (hk1.2.tr hk2).mo)
          | succ n ih =>
            intro j  hg 
            have hO := sRun_ok hA j
            have hO1 := sRun_ok hA (j + 1)
        
            refine Y_iload_5 i_X10_waited_41 ?_
            refine Y_iload_1 i_X10_waited_43 ?_
            refine X_icmp_ge i_X10_waited_44 (tgt := 85) rfl ⟨by omega, by omega⟩ ⟨by omega, by omega⟩ (fun h44 => by exfalso; omega) (fun h44 => ?_)
            refine Y_aload_0 i_X10_waited_47 ?_
            refine X_iconst i_X10_waited_48 ?_
            refine Y_callVv (k' := kX10_goesMinute) i_X10_waited_49 l_X10_197 m_X10_goesMinute (c_X10_goesMinute hO (sRS_in _ hS j) (by omega)) rfl rfl rfl rfl rfl ?_
            refine Y_iload_4 i_X10_waited_52 ?_
            refine Y_iload_2 i_X10_waited_54 ?_
            refine Y_if_ne i_X10_waited_55 (tgt := 66) rfl ⟨by omega, by omega⟩ (fun h55 => ?_) (fun h55 => ?_)
            · refine Y_aload_0 i_X10_waited_66 ?_
              refine Y_getI i_X10_waited_67 f_X10_58 rfl (zg0 _ _ _ _ _) ?_
              refine Y_aload_0 i_X10_waited_70 ?_
              refine X_iconst i_X10_waited_71 ?_
              refine Y_callV (k' := kX10_manyIn) i_X10_waited_72 l_X10_101 m_X10_manyIn (c_X10_manyIn (zs_self _ _ _) hO1 (zR_lit rfl)) rfl rfl rfl rfl rfl ?_
              refine X_isub i_X10_waited_75 ?_
              refine X_iadd i_X10_waited_76 ?_
              refine Y_istore_4 i_X10_waited_77 rfl rfl ?_
              refine Y_iinc_5 i_X10_waited_79 rfl rfl ?_
              refine X_goto i_X10_waited_82 (tgt := 41) rfl ?_
              exact X_eq (ih (j + 1) (by omega)) (by rw [if_neg h55, if_neg h55]; rfl) rfl rfl
            · refine Y_aload_0 i_X10_waited_58 ?_
              refine X_iconst i_X10_waited_59 ?_
              refine Y_callV (k' := kX10_manyIn) i_X10_waited_60 l_X10_101 m_X10_manyIn (c_X10_manyIn (zs_self _ _ _) hO1 (zR_lit rfl)) rfl rfl rfl rfl rfl ?_
              refine X_goto i_X10_waited_63 (tgt := 76) rfl ?_
              refine X_iadd i_X10_waited_76 ?_
              refine Y_istore_4 i_X10_waited_77 rfl rfl ?_
              refine Y_iinc_5 i_X10_waited_79 rfl rfl ?_
              refine X_goto i_X10_waited_82 (tgt := 41) rfl ?_
              exact X_eq (ih (j + 1) (by omega)) (by rw [if_pos h55, if_pos h55]; rfl) rfl rfl
        exact X_eq (loop t 0 (by omega)) (by split <;> rfl) rfl rfl
      · refine Y_aload_0 i_X10_waited_25 ?_
        refine Y_iload_3 i_X10_waited_26 ?_
        refine Y_callV (k' := kX10_no) i_X10_waited_27 l_X10_75 m_X10_no (c_X10_no (by omega) (by omega)) rfl rfl rfl rfl rfl ?_
        refine X_iret i_X10_waited_30 rfl ?_
        exact zay1 (by unfold w_waited; (try rw [sFb2_e]); repeat (first | omega | split)) (by omega) hS
    · refine X_bipush i_X10_waited_18 (by decide +kernel) ?_
      refine Y_istore_3 i_X10_waited_20 rfl rfl ?_
      refine Y_iload_3 i_X10_waited_21 ?_
      refine X_if_eq i_X10_waited_22 (tgt := 31) rfl ⟨by omega, by omega⟩ (fun h22 => by exfalso; omega) (fun h22 => ?_)
      refine Y_aload_0 i_X10_waited_25 ?_
      refine Y_iload_3 i_X10_waited_26 ?_
      refine Y_callV (k' := kX10_no) i_X10_waited_27 l_X10_75 m_X10_no (c_X10_no (by omega) (by omega)) rfl rfl rfl rfl rfl ?_
      refine X_iret i_X10_waited_30 rfl ?_
      exact zay1 (by unfold w_waited; (try rw [sFb2_e]); repeat (first | omega | split)) (by omega) hS
/-- as the model finds the crowd -/
def sCmq (A : zAft) (k : Nat) : Int := if k = 0 then -9 else sCm A k
theorem sCmq_in {A : zAft} {b : Int} (h : zOk b A) (k : Nat) : -9 ≤ sCmq A k ∧ sCmq A k ≤ 6 := by
  have := sCm_in h k
  unfold sCmq; split <;> omega
theorem sCmq_s (A : zAft) (k : Nat) : sCmq A (k + 1) = sCm A (k + 1) := by unfold sCmq; rw [if_neg (by omega)]
theorem sCmq_more {A : zAft} {k : Nat} (h0 : 0 ≤ sMany (sRun A k) 1) (h : sCmq A k < sMany (sRun A k) 1) : sCm A (k + 1) = sMany (sRun A k) 1 ∧ sCw A (k + 1) = k := by
  simp only [sCm, sCw]
  by_cases e : k = 0
  · subst e
    by_cases q : sCm A 0 < sMany (sRun A 0) 1
    · rw [if_pos q, if_pos q]; exact ⟨rfl, rfl⟩
    · rw [if_neg q, if_neg q]
      have e0 : sCm A 0 = 0 := rfl
      exact ⟨by omega, rfl⟩
  · unfold sCmq at h
    rw [if_neg e] at h
    rw [if_pos h, if_pos h]; exact ⟨rfl, rfl⟩
theorem sCmq_less {A : zAft} {k : Nat} (h0 : 0 ≤ sMany (sRun A k) 1) (h : ¬ sCmq A k < sMany (sRun A k) 1) : sCm A (k + 1) = sCmq A k ∧ sCw A (k + 1) = sCw A k := by
  simp only [sCm, sCw]
  by_cases e : k = 0
  · unfold sCmq at h; rw [if_pos e] at h; omega
  · unfold sCmq at h ⊢
    rw [if_neg e] at h ⊢
    rw [if_neg h, if_neg h]; exact ⟨rfl, rfl⟩
set_option maxRecDepth 100000 in
theorem c_X10_crowd {M N : zMem} {S K : zAft} (hA : zOk 999 (N 0)) (hS : zSv S) {n : Int} (h_n : zR n) {w : Int} (h_w : zR w) : zCt kX10_crowd 4 [.ref 38, .int (zii n), .int (zii w)] ((zs (zs (zs M 14 S) 13 K) 3 (N 0))) (zAy (w_crowd N n w) (.int (zii (w_crowd N n w))) (.int (zii (a_crowd N n w))) (zs (zs (zs M 14 S) 13 K) 3 (N 0)) (zs (zs (zs M 14 S) 13 K) 3 (N 0))) := by
  have h6 := hA.1
  unfold zH at h6
  have hG := sG_le hA.1
  have b_n := h_n.1
  have c_n := h_n.2
  have b_w := h_w.1
  have c_w := h_w.2
  have hfa := sFa_in n
  refine zMet (by decide) (Nat.le_of_ble_eq_true rfl) ?_
  show zX kX10_crowd 4 0 [some (.ref 38), some (.int (zii n)), some (.int (zii w)), none, none, none, none] [] _ _
  refine Y_iload_1 i_X10_crowd_0 ?_
  refine Y_callS (k' := kX10_notMinutes) i_X10_crowd_1 l_X10_204 m_X10_notMinutes (c_X10_notMinutes ⟨by omega, by omega⟩) rfl rfl rfl rfl ?_
  refine Y_istore_3 i_X10_crowd_4 rfl rfl ?_
  refine Y_iload_3 i_X10_crowd_5 ?_
  refine Y_if_ne i_X10_crowd_6 (tgt := 21) rfl ⟨by omega, by omega⟩ (fun h6 => ?_) (fun h6 => ?_)
  · refine Y_iload_3 i_X10_crowd_21 ?_
    refine X_if_eq i_X10_crowd_22 (tgt := 31) rfl ⟨by omega, by omega⟩ (fun h22 => ?_) (fun h22 => ?_)
    · refine Y_aload_0 i_X10_crowd_31 ?_
      obtain ⟨t, rfl⟩ : ∃ t : Nat, n = t := ⟨n.toNat, by omega⟩
      refine Y_callVq (k' := kX10_thinks) i_X10_crowd_32 l_X10_207 m_X10_thinks c_X10_thinks rfl rfl rfl rfl rfl ?_
      intro r9 M9 hr9
      obtain ⟨rfl, K1, hk1, rfl⟩ := hr9
      refine X_tl0 ?_
      refine X_bipush i_X10_crowd_35 (by decide +kernel) ?_
      refine Y_istore_4 i_X10_crowd_37 rfl rfl ?_
      refine X_iconst i_X10_crowd_39 ?_
      refine Y_istore_5 i_X10_crowd_40 rfl rfl ?_
      refine X_iconst i_X10_crowd_42 ?_
      refine Y_istore_6 i_X10_crowd_43 rfl rfl ?_
      have loop : ∀ (n : Nat) (j : Nat), j + n = t + 1 → zX kX10_crowd 4 45 [some (.ref 38), some (.int (zii (t : Nat))), some (.int (zii w)), some (.int (zii (sFa (t : Nat)))), some (.int (zii (sCmq (N 0) j))), some (.int (zii (sCw (N 0) j))), some (.int (zii j))] [] (zs (zs (zs M 14 (sRS (N 0) S j)) 13 K1) 3 (sRun (N 0) j)) (zAy (w_crowd N (t : Nat) w) (.int (zii (w_crowd N (t : Nat) w))) (.int (zii (a_crowd N (t : Nat) w))) (zs (zs (zs M 14 S) 13 K) 3 (N 0)) (zs (zs (zs M 14 S) 13 K) 3 (N 0))) := by
        intro n
        induction n with
        | zero =>
          intro j  hg 
          obtain rfl : j = t + 1 := by omega
          rw [sCmq_s]
          refine Y_iload_6 i_X10_crowd_45 ?_
          refine Y_iload_1 i_X10_crowd_47 ?_
          refine X_icmp_gt i_X10_crowd_48 (tgt := 83) rfl ⟨by omega, by omega⟩ ⟨by omega, by omega⟩ (fun h48 => ?_) (fun h48 => by exfalso; omega)
          refine Y_aload_0 i_X10_crowd_83 ?_
          refine Y_callVq (k' := kX10_forgets) i_X10_crowd_84 l_X10_210 m_X10_forgets (c_X10_forgets hk1.1) rfl rfl rfl rfl rfl ?_
          intro r9 M9 hr9
          obtain ⟨rfl, K2, hk2, rfl⟩ := hr9
          refine X_tl0 ?_
          refine Y_iload_2 i_X10_crowd_87 ?_
          refine Y_if_ne i_X10_crowd_88 (tgt := 96) rfl ⟨by omega, by omega⟩ (fun h88 => ?_) (fun h88 => ?_)
          · refine Y_iload_5 i_X10_crowd_96 ?_
            refine X_iret i_X10_crowd_98 rfl ?_
            exact zay0 (by unfold w_crowd; (try rw [sFb2_e]); repeat (first | omega | split)) (zvi (by unfold a_crowd; rw [if_neg h88]; rfl)) (zey_s (sRS_in _ hS _) (hk1.2.tr hk2).mo)
          · refine Y_iload_4 i_X10_crowd_91 ?_
            refine X_goto i_X10_crowd_93 (tgt := 98) rfl ?_
            refine X_iret i_X10_crowd_98 rfl ?_
            exact zay0 (by unfold w_crowd; (try rw [sFb2_e]); repeat (first | omega | split)) (zvi (by unfold a_crowd; rw [if_pos h88]; rfl)) (zey_s (sRS_in _ hS _) (hk1.2.tr hk2).mo)
        | succ n ih =>
          intro j  hg 
          have hO := sRun_ok hA j
          have m1 := sMany_in hO.1 1
          have hq := sCmq_in hA j
          refine Y_iload_6 i_X10_crowd_45 ?_
          refine Y_iload_1 i_X10_crowd_47 ?_
          refine X_icmp_gt i_X10_crowd_48 (tgt := 83) rfl ⟨by omega, by omega⟩ ⟨by omega, by omega⟩ (fun h48 => by exfalso; omega) (fun h48 => ?_)
          refine Y_aload_0 i_X10_crowd_51 ?_
          refine X_iconst i_X10_crowd_52 ?_
          refine Y_callV (k' := kX10_manyIn) i_X10_crowd_53 l_X10_101 m_X10_manyIn (c_X10_manyIn (zs_self _ _ _) hO (zR_lit rfl)) rfl rfl rfl rfl rfl ?_
          refine Y_iload_4 i_X10_crowd_56 ?_
          refine X_icmp_le i_X10_crowd_58 (tgt := 72) rfl ⟨by omega, by omega⟩ ⟨by omega, by omega⟩ (fun h58 => ?_) (fun h58 => ?_)
          · refine Y_aload_0 i_X10_crowd_72 ?_
            refine X_iconst i_X10_crowd_73 ?_
            refine Y_callVv (k' := kX10_goesMinute) i_X10_crowd_74 l_X10_197 m_X10_goesMinute (c_X10_goesMinute hO (sRS_in _ hS j) (by omega)) rfl rfl rfl rfl rfl ?_
            refine Y_iinc_6 i_X10_crowd_77 rfl rfl ?_
            refine X_goto i_X10_crowd_80 (tgt := 45) rfl ?_
            have hx := sCmq_less (A := N 0) (k := j) (by omega) (by omega)
            exact X_eq (ih (j + 1) (by omega)) (by rw [sCmq_s, hx.1, hx.2]; rfl) rfl rfl
          · refine Y_aload_0 i_X10_crowd_61 ?_
            refine X_iconst i_X10_crowd_62 ?_
            refine Y_callV (k' := kX10_manyIn) i_X10_crowd_63 l_X10_101 m_X10_manyIn (c_X10_manyIn (zs_self _ _ _) hO (zR_lit rfl)) rfl rfl rfl rfl rfl ?_
            refine Y_istore_4 i_X10_crowd_66 rfl rfl ?_
            refine Y_iload_6 i_X10_crowd_68 ?_
            refine Y_istore_5 i_X10_crowd_70 rfl rfl ?_
            refine Y_aload_0 i_X10_crowd_72 ?_
            refine X_iconst i_X10_crowd_73 ?_
            refine Y_callVv (k' := kX10_goesMinute) i_X10_crowd_74 l_X10_197 m_X10_goesMinute (c_X10_goesMinute hO (sRS_in _ hS j) (by omega)) rfl rfl rfl rfl rfl ?_
            refine Y_iinc_6 i_X10_crowd_77 rfl rfl ?_
            refine X_goto i_X10_crowd_80 (tgt := 45) rfl ?_
            have hx := sCmq_more (A := N 0) (k := j) (by omega) (by omega)
            exact X_eq (ih (j + 1) (by omega)) (by rw [sCmq_s, hx.1, hx.2]; rfl) rfl rfl
      exact loop (t + 1) 0 (by omega)
    · refine Y_aload_0 i_X10_crowd_25 ?_
      refine Y_iload_3 i_X10_crowd_26 ?_
      refine Y_callV (k' := kX10_no) i_X10_crowd_27 l_X10_75 m_X10_no (c_X10_no (by omega) (by omega)) rfl rfl rfl rfl rfl ?_
      refine X_iret i_X10_crowd_30 rfl ?_
      exact zay1 (by unfold w_crowd; (try rw [sFb2_e]); repeat (first | omega | split)) (by omega) hS
  · refine Y_iload_2 i_X10_crowd_9 ?_
    refine X_iconst i_X10_crowd_10 ?_
    refine X_iconst i_X10_crowd_11 ?_
    refine Y_callS (k' := kX10_isIn) i_X10_crowd_12 l_X10_86 m_X10_isIn (c_X10_isIn ⟨by omega, by omega⟩ (zR_lit rfl) (zR_lit rfl)) rfl rfl rfl rfl ?_
    refine Y_ifq_ne i_X10_crowd_15 (tgt := 21) rfl  (fun h15 => ?_) (fun h15 => ?_)
    · refine Y_iload_3 i_X10_crowd_21 ?_
      refine X_if_eq i_X10_crowd_22 (tgt := 31) rfl ⟨by omega, by omega⟩ (fun h22 => ?_) (fun h22 => ?_)
      · refine Y_aload_0 i_X10_crowd_31 ?_
        obtain ⟨t, rfl⟩ : ∃ t : Nat, n = t := ⟨n.toNat, by omega⟩
        refine Y_callVq (k' := kX10_thinks) i_X10_crowd_32 l_X10_207 m_X10_thinks c_X10_thinks rfl rfl rfl rfl rfl ?_
        intro r9 M9 hr9
        obtain ⟨rfl, K1, hk1, rfl⟩ := hr9
        refine X_tl0 ?_
        refine X_bipush i_X10_crowd_35 (by decide +kernel) ?_
        refine Y_istore_4 i_X10_crowd_37 rfl rfl ?_
        refine X_iconst i_X10_crowd_39 ?_
        refine Y_istore_5 i_X10_crowd_40 rfl rfl ?_
        refine X_iconst i_X10_crowd_42 ?_
        refine Y_istore_6 i_X10_crowd_43 rfl rfl ?_
        have loop : ∀ (n : Nat) (j : Nat), j + n = t + 1 → zX kX10_crowd 4 45 [some (.ref 38), some (.int (zii (t : Nat))), some (.int (zii w)), some (.int (zii (sFa (t : Nat)))), some (.int (zii (sCmq (N 0) j))), some (.int (zii (sCw (N 0) j))), some (.int (zii j))] [] (zs (zs (zs M 14 (sRS (N 0) S j)) 13 K1) 3 (sRun (N 0) j)) (zAy (w_crowd N (t : Nat) w) (.int (zii (w_crowd N (t : Nat) w))) (.int (zii (a_crowd N (t : Nat) w))) (zs (zs (zs M 14 S) 13 K) 3 (N 0)) (zs (zs (zs M 14 S) 13 K) 3 (N 0))) := by
          intro n
          induction n with
          | zero =>
            intro j  hg 
            obtain rfl : j = t + 1 := by omega
            rw [sCmq_s]
            refine Y_iload_6 i_X10_crowd_45 ?_
            refine Y_iload_1 i_X10_crowd_47 ?_
            refine X_icmp_gt i_X10_crowd_48 (tgt := 83) rfl ⟨by omega, by omega⟩ ⟨by omega, by omega⟩ (fun h48 => ?_) (fun h48 => by exfalso; omega)
            refine Y_aload_0 i_X10_crowd_83 ?_
            refine Y_callVq (k' := kX10_forgets) i_X10_crowd_84 l_X10_210 m_X10_forgets (c_X10_forgets hk1.1) rfl rfl rfl rfl rfl ?_
            intro r9 M9 hr9
            obtain ⟨rfl, K2, hk2, rfl⟩ := hr9
            refine X_tl0 ?_
            refine Y_iload_2 i_X10_crowd_87 ?_
            refine Y_if_ne i_X10_crowd_88 (tgt := 96) rfl ⟨by omega, by omega⟩ (fun h88 => ?_) (fun h88 => ?_)
            · refine Y_iload_5 i_X10_crowd_96 ?_
              refine X_iret i_X10_crowd_98 rfl ?_
              exact zay0 (by unfold w_crowd; (try rw [sFb2_e]); repeat (first | omega | split)) (zvi (by unfold a_crowd; rw [if_neg h88]; rfl)) (zey_s (sRS_in _ hS _) (hk1.2.tr hk2).mo)
            · refine Y_iload_4 i_X10_crowd_91 ?_
              refine X_goto i_X10_crowd_93 (tgt := 98) rfl ?_
              refine X_iret i_X10_crowd_98 rfl ?_
              exact zay0 (by unfold w_crowd; (try rw [sFb2_e]); repeat (first | omega | split)) (zvi (by unfold a_crowd; rw [if_pos h88]; rfl)) (zey_s (sRS_in _ hS _) (hk1.2.tr hk2).mo)
          | succ n ih =>
            intro j  hg 
            have hO := sRun_ok hA j
            have m1 := sMany_in hO.1 1
            have hq := sCmq_in hA j
            refine Y_iload_6 i_X10_crowd_45 ?_
            refine Y_iload_1 i_X10_crowd_47 ?_
            refine X_icmp_gt i_X10_crowd_48 (tgt := 83) rfl ⟨by omega, by omega⟩ ⟨by omega, by omega⟩ (fun h48 => by exfalso; omega) (fun h48 => ?_)
            refine Y_aload_0 i_X10_crowd_51 ?_
            refine X_iconst i_X10_crowd_52 ?_
            refine Y_callV (k' := kX10_manyIn) i_X10_crowd_53 l_X10_101 m_X10_manyIn (c_X10_manyIn (zs_self _ _ _) hO (zR_lit rfl)) rfl rfl rfl rfl rfl ?_
            refine Y_iload_4 i_X10_crowd_56 ?_
            refine X_icmp_le i_X10_crowd_58 (tgt := 72) rfl ⟨by omega, by omega⟩ ⟨by omega, by omega⟩ (fun h58 => ?_) (fun h58 => ?_)
            · refine Y_aload_0 i_X10_crowd_72 ?_
              refine X_iconst i_X10_crowd_73 ?_
              refine Y_callVv (k' := kX10_goesMinute) i_X10_crowd_74 l_X10_197 m_X10_goesMinute (c_X10_goesMinute hO (sRS_in _ hS j) (by omega)) rfl rfl rfl rfl rfl ?_
              refine Y_iinc_6 i_X10_crowd_77 rfl rfl ?_
              refine X_goto i_X10_crowd_80 (tgt := 45) rfl ?_
              have hx := sCmq_less (A := N 0) (k := j) (by omega) (by omega)
              exact X_eq (ih (j + 1) (by omega)) (by rw [sCmq_s, hx.1, hx.2]; rfl) rfl rfl
            · refine Y_aload_0 i_X10_crowd_61 ?_
              refine X_iconst i_X10_crowd_62 ?_
              refine Y_callV (k' := kX10_manyIn) i_X10_crowd_63 l_X10_101 m_X10_manyIn (c_X10_manyIn (zs_self _ _ _) hO (zR_lit rfl)) rfl rfl rfl rfl rfl ?_
              refine Y_istore_4 i_X10_crowd_66 rfl rfl ?_
              refine Y_iload_6 i_X10_crowd_68 ?_
              refine Y_istore_5 i_X10_crowd_70 rfl rfl ?_
              refine Y_aload_0 i_X10_crowd_72 ?_
              refine X_iconst i_X10_crowd_73 ?_
              refine Y_callVv (k' := kX10_goesMinute) i_X10_crowd_74 l_X10_197 m_X10_goesMinute (c_X10_goesMinute hO (sRS_in _ hS j) (by omega)) rfl rfl rfl rfl rfl ?_
              refine Y_iinc_6 i_X10_crowd_77 rfl rfl ?_
              refine X_goto i_X10_crowd_80 (tgt := 45) rfl ?_
              have hx := sCmq_more (A := N 0) (k := j) (by omega) (by omega)
              exact X_eq (ih (j + 1) (by omega)) (by rw [sCmq_s, hx.1, hx.2]; rfl) rfl rfl
        exact loop (t + 1) 0 (by omega)
      · refine Y_aload_0 i_X10_crowd_25 ?_
        refine Y_iload_3 i_X10_crowd_26 ?_
        refine Y_callV (k' := kX10_no) i_X10_crowd_27 l_X10_75 m_X10_no (c_X10_no (by omega) (by omega)) rfl rfl rfl rfl rfl ?_
        refine X_iret i_X10_crowd_30 rfl ?_
        exact zay1 (by unfold w_crowd; (try rw [sFb2_e]); repeat (first | omega | split)) (by omega) hS
    · refine X_bipush i_X10_crowd_18 (by decide +kernel) ?_
      refine Y_istore_3 i_X10_crowd_20 rfl rfl ?_
      refine Y_iload_3 i_X10_crowd_21 ?_
      refine X_if_eq i_X10_crowd_22 (tgt := 31) rfl ⟨by omega, by omega⟩ (fun h22 => by exfalso; omega) (fun h22 => ?_)
      refine Y_aload_0 i_X10_crowd_25 ?_
      refine Y_iload_3 i_X10_crowd_26 ?_
      refine Y_callV (k' := kX10_no) i_X10_crowd_27 l_X10_75 m_X10_no (c_X10_no (by omega) (by omega)) rfl rfl rfl rfl rfl ?_
      refine X_iret i_X10_crowd_30 rfl ?_
      exact zay1 (by unfold w_crowd; (try rw [sFb2_e]); repeat (first | omega | split)) (by omega) hS
