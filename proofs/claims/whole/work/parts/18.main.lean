def zEx (M M' : zMem) : Prop := ∀ m, m ≠ 1 → m ≠ 7 → m ≠ 8 → M' m = M m
theorem zex0 (M : zMem) : zEx M M := fun _ _ _ _ => rfl
theorem zex1 {M : zMem} {C : zAft} : zEx M (zs M 1 C) := fun m h _ _ => zs_ne h
theorem zex7 {M : zMem} {L C : zAft} : zEx M (zs (zs M 7 L) 1 C) := fun m h h7 _ => by rw [zs_ne h, zs_ne h7]
theorem zex8 {M : zMem} {L C : zAft} : zEx M (zs (zs M 8 L) 1 C) := fun m h _ h8 => by rw [zs_ne h, zs_ne h8]
def zNo (M : zMem) (w : Int) : zMem := zs M 9 (zwr (M 9) 0 (-1 - w) (M 9 0 (-1 - w) + 1))
/-- an answer: refused for W, or V with the memory M1 -/
def zAn (w : Int) (vr v : Value) (M1 M : zMem) : Option Value → zMem → Prop := fun r M' => (w ≠ 0 ∧ r = some vr ∧ zEx (zNo M w) M') ∨ (w = 0 ∧ r = some v ∧ zEx M1 M')
theorem zan1 {W w : Int} {v : Value} {M M1 : zMem} (h : W = w) (hn : w ≠ 0) : zAn W (.int (zii W)) v M1 M (some (.int (zii w))) (zNo M w) := by subst h; exact Or.inl ⟨hn, rfl, zex0 _⟩
theorem zan2 {W w : Int} {v : Value} {M M1 : zMem} (h : W = w) (hn : w ≠ 0) : zAn W (.int (zii (1000000000 - W))) v M1 M (some (.int (zii (1000000000 - w)))) (zNo M w) := by subst h; exact Or.inl ⟨hn, rfl, zex0 _⟩
theorem zan3 {W w : Int} {v : Value} {M M1 : zMem} (h : W = w) (hn : w ≠ 0) : zAn W (.long (zll (4000000000000000000 - W))) v M1 M (some (.long (zll (4000000000000000000 - w)))) (zNo M w) := by subst h; exact Or.inl ⟨hn, rfl, zex0 _⟩
theorem zan0 {W : Int} {vr v v' : Value} {M M1 M' : zMem} (h : W = 0) (hv : v' = v) (hm : zEx M1 M') : zAn W vr v M1 M (some v') M' := by subst hv; exact Or.inr ⟨h, rfl, hm⟩
theorem zctm {k : zMD} {d : Nat} {args : List Value} {M : zMem} {Q : Option Value → zMem → Prop} (m : Nat) (h : zCt k d args (zs M m (M m)) Q) : zCt k d args M Q := by rw [zs_id] at h; exact h
theorem zctm2 {k : zMD} {d : Nat} {args : List Value} {M : zMem} {Q : Option Value → zMem → Prop} (m m' : Nat) (h : zCt k d args (zs (zs M m (M m)) m' (M m')) Q) : zCt k d args M Q := by rw [zs_id, zs_id] at h; exact h
theorem X_mm {k : zMD} {d pc : Nat} {lo : List (Option Value)} {st : List Value} {M M' : zMem} {Q : Option Value → zMem → Prop} (h : M' = M) (hx : zX k d pc lo st M' Q) : zX k d pc lo st M Q := h ▸ hx
def zIv (M : zMem) : Prop := zOk 999 (M 0) ∧ zLt (M 4) ∧ zTo (M 5) ∧ zCh (M 6) ∧ zOk 999 (M 2) ∧ (0 ≤ M 9 1 0 ∧ M 9 1 0 ≤ 1)
def sFa (n : Int) : Int := if n < 0 then -4 else if 99 < n then -6 else 0
def sFb2 (n w k : Int) : Int := if n < 0 then -4 else if 99 < n then -6 else if w < 0 ∨ k ≤ w then -2 else 0
theorem sFa_in (n : Int) : -6 ≤ sFa n ∧ sFa n ≤ 0 ∧ (sFa n = 0 ↔ 0 ≤ n ∧ n ≤ 99) := by
  unfold sFa
  split
  · omega
  · split <;> omega
theorem sFb2_in (n w k : Int) : -6 ≤ sFb2 n w k ∧ sFb2 n w k ≤ 0 ∧ (sFb2 n w k = 0 ↔ (0 ≤ n ∧ n ≤ 99) ∧ 0 ≤ w ∧ w < k) := by
  unfold sFb2
  split
  · omega
  · split
    · omega
    · split <;> omega
set_option maxRecDepth 100000 in
theorem c_X9_refuse0 {M : zMem} {R : zAft} {w : Int} (w0 : -6 ≤ w) (w1 : w ≤ -1) : zCt kX9_refuse 0 [.ref 36, .int (zii w)] ((zs M 9 R)) (zRet (.int (zii w)) (zs M 9 (zwr R 0 (-1 - w) (R 0 (-1 - w) + 1)))) := by
  refine zMet (by decide) (Nat.le_of_ble_eq_true rfl) ?_
  show zX kX9_refuse 0 0 [some (.ref 36), some (.int (zii w)), none] [] _ _
  refine X_iconst i_X9_refuse_0 ?_
  refine Y_iload_1 i_X9_refuse_1 ?_
  refine X_isub i_X9_refuse_2 ?_
  refine Y_istore_2 i_X9_refuse_3 rfl rfl ?_
  refine Y_iload_2 i_X9_refuse_4 ?_
  refine X_if_lt i_X9_refuse_5 (tgt := 24) rfl ⟨by omega, by omega⟩ (fun h5 => by exfalso; omega) (fun h5 => ?_)
  refine Y_iload_2 i_X9_refuse_8 ?_
  refine X_bipush i_X9_refuse_9 (by decide +kernel) ?_
  refine X_icmp_ge i_X9_refuse_11 (tgt := 24) rfl ⟨by omega, by omega⟩ ⟨by omega, by omega⟩ (fun h11 => by exfalso; omega) (fun h11 => ?_)
  refine Y_aload_0 i_X9_refuse_14 ?_
  refine X_getR i_X9_refuse_15 f_X9_64 rfl ?_
  refine Y_iload_2 i_X9_refuse_18 ?_
  refine X_dup2 i_X9_refuse_19 rfl rfl ?_
  refine Y_iald i_X9_refuse_20 rfl ⟨by omega, by omega⟩ rfl (zg0 _ _ _ _ _) ?_
  refine X_iconst i_X9_refuse_21 ?_
  refine X_iadd i_X9_refuse_22 ?_
  refine Y_iast i_X9_refuse_23 rfl ⟨by omega, by omega⟩ rfl (zp0 _ _ _ _ _ _) ?_
  refine Y_iload_1 i_X9_refuse_24 ?_
  refine X_iret i_X9_refuse_25 rfl ?_
  exact ⟨rfl, rfl⟩
theorem c_X9_refuse {M : zMem} {w : Int} (w0 : -6 ≤ w) (w1 : w ≤ -1) : zCt kX9_refuse 0 [.ref 36, .int (zii w)] M (zRet (.int (zii w)) (zNo M w)) := zctm 9 (c_X9_refuse0 (M := M) (R := M 9) w0 w1)
set_option maxRecDepth 100000 in
theorem c_X9_refuseLoudly {M : zMem} {w : Int} (w0 : -6 ≤ w) (w1 : w ≤ -1) : zCt kX9_refuseLoudly 1 [.ref 36, .int (zii w)] M (zRet (.int (zii (1000000000 - w))) (zNo M w)) := by
  refine zMet (by decide) (Nat.le_of_ble_eq_true rfl) ?_
  show zX kX9_refuseLoudly 1 0 [some (.ref 36), some (.int (zii w))] [] _ _
  refine X_ldcw i_X9_refuseLoudly_0 n_X9_302 (x := 1000000000) (by decide +kernel) ?_
  refine Y_aload_0 i_X9_refuseLoudly_3 ?_
  refine Y_iload_1 i_X9_refuseLoudly_4 ?_
  refine Y_callV (k' := kX9_refuse) i_X9_refuseLoudly_5 l_X9_72 m_X9_refuse (c_X9_refuse (by omega) (by omega)) rfl rfl rfl rfl rfl ?_
  refine X_isub i_X9_refuseLoudly_8 ?_
  refine X_iret i_X9_refuseLoudly_9 rfl ?_
  exact ⟨rfl, rfl⟩
set_option maxRecDepth 100000 in
theorem c_X9_refuseLong {M : zMem} {w : Int} (w0 : -6 ≤ w) (w1 : w ≤ -1) : zCt kX9_refuseLong 1 [.ref 36, .int (zii w)] M (zRet (.long (zll (4000000000000000000 - w))) (zNo M w)) := by
  refine zMet (by decide) (Nat.le_of_ble_eq_true rfl) ?_
  show zX kX9_refuseLong 1 0 [some (.ref 36), some (.int (zii w))] [] _ _
  refine X_ldc2 i_X9_refuseLong_0 n_X9_303 (x := 4000000000000000000) (by decide +kernel) ?_
  refine Y_aload_0 i_X9_refuseLong_3 ?_
  refine Y_iload_1 i_X9_refuseLong_4 ?_
  refine Y_callV (k' := kX9_refuse) i_X9_refuseLong_5 l_X9_72 m_X9_refuse (c_X9_refuse (by omega) (by omega)) rfl rfl rfl rfl rfl ?_
  refine X_i2l i_X9_refuseLong_8 ⟨by omega, by omega⟩ ?_
  refine X_lsub i_X9_refuseLong_9 ?_
  refine X_lret i_X9_refuseLong_10 rfl ?_
  exact ⟨rfl, rfl⟩
set_option maxRecDepth 100000 in
theorem c_X9_whyNotFar {M : zMem} {n : Int} (hn : zR n) : zCt kX9_whyNotFar 0 [.int (zii n)] M (zRet (.int (zii (sFa n))) M) := by
  have hn1 := hn.1
  have hn2 := hn.2
  refine zMet (by decide) (Nat.le_of_ble_eq_true rfl) ?_
  show zX kX9_whyNotFar 0 0 [some (.int (zii n))] [] _ _
  refine Y_iload_0 i_X9_whyNotFar_0 ?_
  refine X_if_ge i_X9_whyNotFar_1 (tgt := 7) rfl ⟨by omega, by omega⟩ (fun h1 => ?_) (fun h1 => ?_)
  · refine Y_iload_0 i_X9_whyNotFar_7 ?_
    refine X_bipush i_X9_whyNotFar_8 (by decide +kernel) ?_
    refine X_icmp_le i_X9_whyNotFar_10 (tgt := 18) rfl ⟨by omega, by omega⟩ ⟨by omega, by omega⟩ (fun h10 => ?_) (fun h10 => ?_)
    · refine X_iconst i_X9_whyNotFar_18 ?_
      refine X_iret i_X9_whyNotFar_19 rfl ?_
      exact zri (by unfold sFa; rw [if_neg (by omega), if_neg (by omega)])
    · refine X_bipush i_X9_whyNotFar_13 (by decide +kernel) ?_
      refine X_goto i_X9_whyNotFar_15 (tgt := 19) rfl ?_
      refine X_iret i_X9_whyNotFar_19 rfl ?_
      exact zri (by unfold sFa; rw [if_neg (by omega), if_pos (by omega)])
  · refine X_bipush i_X9_whyNotFar_4 (by decide +kernel) ?_
    refine X_iret i_X9_whyNotFar_6 rfl ?_
    exact zri (by unfold sFa; rw [if_pos (by omega)])
set_option maxRecDepth 100000 in
theorem c_X9_whyNotFar_ {M : zMem} {n w k : Int} (hn : zR n) (hw : zR w) (hk : zR k) : zCt kX9_whyNotFar_ 1 [.int (zii n), .int (zii w), .int (zii k)] M (zRet (.int (zii (sFb2 n w k))) M) := by
  have hn1 := sFa_in n
  have e9 : sFb2 n w k = if sFa n = 0 then (if w < 0 ∨ k ≤ w then -2 else 0) else sFa n := by
    unfold sFb2 sFa
    split
    · rfl
    · split
      · rfl
      · rfl
  refine zMet (by decide) (Nat.le_of_ble_eq_true rfl) ?_
  show zX kX9_whyNotFar_ 1 0 [some (.int (zii n)), some (.int (zii w)), some (.int (zii k)), none] [] _ _
  refine Y_iload_0 i_X9_whyNotFar__0 ?_
  refine Y_callS (k' := kX9_whyNotFar) i_X9_whyNotFar__1 l_X9_191 m_X9_whyNotFar (c_X9_whyNotFar hn) rfl rfl rfl rfl ?_
  refine Y_istore_3 i_X9_whyNotFar__4 rfl rfl ?_
  refine Y_iload_3 i_X9_whyNotFar__5 ?_
  refine X_if_eq i_X9_whyNotFar__6 (tgt := 11) rfl ⟨by omega, by omega⟩ (fun h6 => ?_) (fun h6 => ?_)
  · refine Y_iload_1 i_X9_whyNotFar__11 ?_
    refine Y_iload_2 i_X9_whyNotFar__12 ?_
    refine Y_callS (k' := kX9_isOther) i_X9_whyNotFar__13 l_X9_103 m_X9_isOther (c_X9_isOther hw hk) rfl rfl rfl rfl ?_
    refine Y_ifq_eq i_X9_whyNotFar__16 (tgt := 24) rfl  (fun h16 => ?_) (fun h16 => ?_)
    · refine X_iconst i_X9_whyNotFar__24 ?_
      refine X_iret i_X9_whyNotFar__25 rfl ?_
      exact zri (by rw [e9, if_pos h6, if_neg h16])
    · refine X_bipush i_X9_whyNotFar__19 (by decide +kernel) ?_
      refine X_goto i_X9_whyNotFar__21 (tgt := 25) rfl ?_
      refine X_iret i_X9_whyNotFar__25 rfl ?_
      exact zri (by rw [e9, if_pos h6, if_pos h16])
  · refine Y_iload_3 i_X9_whyNotFar__9 ?_
    refine X_iret i_X9_whyNotFar__10 rfl ?_
    exact zri (by rw [e9, if_neg h6])
theorem c_X1_keep2 {M : zMem} {A D : zAft} {b : Int} (hA : zOk b A) (hD : zCh D) {g : Int} (g0 : -1 ≤ g) (g1 : g < 6) : zCt kX1_keep 1 [.ref 25, .ref 0, .int (zii g)] (zs (zs M 6 D) 0 A) (zVoid (zs (zs M 6 (sKp D A g)) 0 A)) := by
  have h := c_X1_keep (M := zs M 0 A) (A := A) (D := D) (zs_self _ _ _) hA hD g0 g1
  rw [zs_comm (show (0 : Nat) ≠ 6 by decide) A D, zs_comm (show (0 : Nat) ≠ 6 by decide) A (sKp D A g)] at h
  exact h
theorem c_X1_forget2 {M : zMem} {A D : zAft} : zCt kX1_forget 0 [.ref 25] (zs (zs M 6 D) 0 A) (zVoid (zs (zs M 6 (zwr D 5 1 0)) 0 A)) := by
  have h := c_X1_forget (M := zs M 0 A) (D := D)
  rw [zs_comm (show (0 : Nat) ≠ 6 by decide) A D, zs_comm (show (0 : Nat) ≠ 6 by decide) A (zwr D 5 1 0)] at h
  exact h
def w_guestOf (M : zMem) (x : Int) (w : Int) : Int := if ¬ (0 ≤ x ∧ x < M 0 6 0) then -1 else if w < 0 ∨ 10 ≤ w then -2 else 0
def a_guestOf (M : zMem) (x : Int) (w : Int) : Int := sTell (M 0) x w
set_option maxRecDepth 100000 in
theorem c_X9_guestOf {M : zMem} (hI : zIv M) {x : Int} (h_x : zR x) {w : Int} (h_w : zR w) : zCt kX9_guestOf 2 [.ref 36, .int (zii x), .int (zii w)] M (zAn (w_guestOf M x w) (.int (zii (w_guestOf M x w))) (.int (zii (a_guestOf M x w))) M M) := by
  obtain ⟨hA, hL, hT, hD, hPi, hR1, hR2⟩ := hI
  have h6 := hA.1
  unfold zH at h6
  have b_x := h_x.1
  have c_x := h_x.2
  have b_w := h_w.1
  have c_w := h_w.2
  refine zMet (by decide) (Nat.le_of_ble_eq_true rfl) ?_
  show zX kX9_guestOf 2 0 [some (.ref 36), some (.int (zii x)), some (.int (zii w))] [] _ _
  refine Y_aload_0 i_X9_guestOf_0 ?_
  refine X_getR i_X9_guestOf_1 f_X9_10 rfl ?_
  refine Y_iload_1 i_X9_guestOf_4 ?_
  refine Y_callV (k' := kX0_has) i_X9_guestOf_5 l_X9_99 m_X0_has (c_X0_has (i := 0) (M := M) (A := M 0) (by omega) rfl hA.1 ⟨by omega, by omega⟩) rfl rfl rfl rfl rfl ?_
  refine Y_ifq_ne i_X9_guestOf_8 (tgt := 17) rfl  (fun h8 => ?_) (fun h8 => ?_)
  · refine Y_iload_2 i_X9_guestOf_17 ?_
    refine X_bipush i_X9_guestOf_18 (by decide +kernel) ?_
    refine Y_callS (k' := kX9_isOther) i_X9_guestOf_20 l_X9_103 m_X9_isOther (c_X9_isOther ⟨by omega, by omega⟩ (zR_lit rfl)) rfl rfl rfl rfl ?_
    refine Y_ifq_eq i_X9_guestOf_23 (tgt := 33) rfl  (fun h23 => ?_) (fun h23 => ?_)
    · refine Y_aload_0 i_X9_guestOf_33 ?_
      refine X_getR i_X9_guestOf_34 f_X9_10 rfl ?_
      refine Y_iload_1 i_X9_guestOf_37 ?_
      refine Y_iload_2 i_X9_guestOf_38 ?_
      refine Y_callV (k' := kX0_tellOf) i_X9_guestOf_39 l_X9_107 m_X0_tellOf (c_X0_tellOf (i := 0) (M := M) (A := M 0) (by omega) rfl hA (by omega) (by omega) (by omega) (by omega)) rfl rfl rfl rfl rfl ?_
      refine X_iret i_X9_guestOf_42 rfl ?_
      exact zan0 (by unfold w_guestOf; rw [if_neg (by omega), if_neg (by omega)]) (rfl) (zex0 _)
    · refine Y_aload_0 i_X9_guestOf_26 ?_
      refine X_bipush i_X9_guestOf_27 (by decide +kernel) ?_
      refine Y_callV (k' := kX9_refuse) i_X9_guestOf_29 l_X9_72 m_X9_refuse (c_X9_refuse (by omega) (by omega)) rfl rfl rfl rfl rfl ?_
      refine X_iret i_X9_guestOf_32 rfl ?_
      exact zan1 (by unfold w_guestOf; rw [if_neg (by omega), if_pos (by omega)]) (by omega)
  · refine Y_aload_0 i_X9_guestOf_11 ?_
    refine X_iconst i_X9_guestOf_12 ?_
    refine Y_callV (k' := kX9_refuse) i_X9_guestOf_13 l_X9_72 m_X9_refuse (c_X9_refuse (by omega) (by omega)) rfl rfl rfl rfl rfl ?_
    refine X_iret i_X9_guestOf_16 rfl ?_
    exact zan1 (by unfold w_guestOf; rw [if_pos (by omega)]) (by omega)
def w_behind (M : zMem) (x : Int) (n : Int) (w : Int) : Int := if ¬ (0 ≤ x ∧ x < M 0 6 0) then -1 else sFb2 n w 3
def a_behind (M : zMem) (x : Int) (n : Int) (w : Int) : Int := if w = 0 then sRun (M 0) n.toNat 3 x else if w = 1 then sRun (M 0) n.toNat 2 x else sRun (M 0) n.toNat 5 x
set_option maxRecDepth 100000 in
theorem c_X9_behind {M : zMem} (hI : zIv M) {x : Int} (h_x : zR x) {n : Int} (h_n : zR n) {w : Int} (h_w : zR w) : zCt kX9_behind 7 [.ref 36, .int (zii x), .int (zii n), .int (zii w)] M (zAn (w_behind M x n w) (.int (zii (w_behind M x n w))) (.int (zii (a_behind M x n w))) M M) := by
  obtain ⟨hA, hL, hT, hD, hPi, hR1, hR2⟩ := hI
  have h6 := hA.1
  unfold zH at h6
  have b_x := h_x.1
  have c_x := h_x.2
  have b_n := h_n.1
  have c_n := h_n.2
  have b_w := h_w.1
  have c_w := h_w.2
  have hfa := sFb2_in n w 3
  refine zMet (by decide) (Nat.le_of_ble_eq_true rfl) ?_
  show zX kX9_behind 7 0 [some (.ref 36), some (.int (zii x)), some (.int (zii n)), some (.int (zii w)), none] [] _ _
  refine Y_aload_0 i_X9_behind_0 ?_
  refine X_getR i_X9_behind_1 f_X9_10 rfl ?_
  refine Y_iload_1 i_X9_behind_4 ?_
  refine Y_callV (k' := kX0_has) i_X9_behind_5 l_X9_99 m_X0_has (c_X0_has (i := 0) (M := M) (A := M 0) (by omega) rfl hA.1 ⟨by omega, by omega⟩) rfl rfl rfl rfl rfl ?_
  refine Y_ifq_ne i_X9_behind_8 (tgt := 17) rfl  (fun h8 => ?_) (fun h8 => ?_)
  · refine Y_iload_2 i_X9_behind_17 ?_
    refine Y_iload_3 i_X9_behind_18 ?_
    refine X_iconst i_X9_behind_19 ?_
    refine Y_callS (k' := kX9_whyNotFar_) i_X9_behind_20 l_X9_160 m_X9_whyNotFar_ (c_X9_whyNotFar_ (n := n) (w := w) (k := 3) ⟨by omega, by omega⟩ ⟨by omega, by omega⟩ (zR_lit rfl)) rfl rfl rfl rfl ?_
    refine Y_istore_4 i_X9_behind_23 rfl rfl ?_
    refine Y_iload_4 i_X9_behind_25 ?_
    refine X_if_eq i_X9_behind_27 (tgt := 37) rfl ⟨by omega, by omega⟩ (fun h27 => ?_) (fun h27 => ?_)
    · obtain ⟨t, rfl⟩ : ∃ t : Nat, n = t := ⟨n.toNat, by omega⟩
      refine Y_aload_0 i_X9_behind_37 ?_
      refine X_getR i_X9_behind_38 f_X9_46 rfl ?_
      refine Y_iload_1 i_X9_behind_41 ?_
      refine Y_iload_2 i_X9_behind_42 ?_
      refine Y_iload_3 i_X9_behind_43 ?_
      refine Y_callVe (k' := kX7_ofOne) i_X9_behind_44 l_X9_163 m_X7_ofOne (zctm 1 (c_X7_ofOne (M := M) (A := M 0) (B := M 1) (t := t) (x := x) (w := w) rfl hA (by omega) (by omega) (by omega) ⟨by omega, by omega⟩)) rfl rfl rfl rfl rfl ?_
      intro C9
      refine X_iret i_X9_behind_47 rfl ?_
      exact zan0 (by unfold w_behind; rw [if_neg (by omega)]; exact h27) (rfl) (zex1)
    · refine Y_aload_0 i_X9_behind_30 ?_
      refine Y_iload_4 i_X9_behind_31 ?_
      refine Y_callV (k' := kX9_refuse) i_X9_behind_33 l_X9_72 m_X9_refuse (c_X9_refuse (by omega) (by omega)) rfl rfl rfl rfl rfl ?_
      refine X_iret i_X9_behind_36 rfl ?_
      exact zan1 (by unfold w_behind; rw [if_neg (by omega)]) (by omega)
  · refine Y_aload_0 i_X9_behind_11 ?_
    refine X_iconst i_X9_behind_12 ?_
    refine Y_callV (k' := kX9_refuse) i_X9_behind_13 l_X9_72 m_X9_refuse (c_X9_refuse (by omega) (by omega)) rfl rfl rfl rfl rfl ?_
    refine X_iret i_X9_behind_16 rfl ?_
    exact zan1 (by unfold w_behind; rw [if_pos (by omega)]) (by omega)
def w_all (M : zMem) (n : Int) (w : Int) : Int := sFb2 n w 6
def a_all (M : zMem) (n : Int) (w : Int) : Int := if w < 4 then sMany (sRun (M 0) n.toNat) w else if w = 4 then sRun (M 0) n.toNat 6 4 - M 0 6 4 else sTh (sRun (M 0) n.toNat) (sG (M 0))
set_option maxRecDepth 100000 in
theorem c_X9_all {M : zMem} (hI : zIv M) {n : Int} (h_n : zR n) {w : Int} (h_w : zR w) : zCt kX9_all 7 [.ref 36, .int (zii n), .int (zii w)] M (zAn (w_all M n w) (.int (zii (w_all M n w))) (.int (zii (a_all M n w))) M M) := by
  obtain ⟨hA, hL, hT, hD, hPi, hR1, hR2⟩ := hI
  have h6 := hA.1
  unfold zH at h6
  have b_n := h_n.1
  have c_n := h_n.2
  have b_w := h_w.1
  have c_w := h_w.2
  have hfa := sFb2_in n w 6
  refine zMet (by decide) (Nat.le_of_ble_eq_true rfl) ?_
  show zX kX9_all 7 0 [some (.ref 36), some (.int (zii n)), some (.int (zii w)), none] [] _ _
  refine Y_iload_1 i_X9_all_0 ?_
  refine Y_iload_2 i_X9_all_1 ?_
  refine X_bipush i_X9_all_2 (by decide +kernel) ?_
  refine Y_callS (k' := kX9_whyNotFar_) i_X9_all_4 l_X9_160 m_X9_whyNotFar_ (c_X9_whyNotFar_ (n := n) (w := w) (k := 6) ⟨by omega, by omega⟩ ⟨by omega, by omega⟩ (zR_lit rfl)) rfl rfl rfl rfl ?_
  refine Y_istore_3 i_X9_all_7 rfl rfl ?_
  refine Y_iload_3 i_X9_all_8 ?_
  refine X_if_eq i_X9_all_9 (tgt := 18) rfl ⟨by omega, by omega⟩ (fun h9 => ?_) (fun h9 => ?_)
  · obtain ⟨t, rfl⟩ : ∃ t : Nat, n = t := ⟨n.toNat, by omega⟩
    refine Y_aload_0 i_X9_all_18 ?_
    refine X_getR i_X9_all_19 f_X9_46 rfl ?_
    refine Y_iload_1 i_X9_all_22 ?_
    refine Y_iload_2 i_X9_all_23 ?_
    refine Y_callVe (k' := kX7_ofAll) i_X9_all_24 l_X9_166 m_X7_ofAll (zctm 1 (c_X7_ofAll (M := M) (A := M 0) (B := M 1) (t := t) (w := w) rfl hA (by omega) ⟨by omega, by omega⟩)) rfl rfl rfl rfl rfl ?_
    intro C9
    refine X_iret i_X9_all_27 rfl ?_
    exact zan0 (by unfold w_all; exact h9) (rfl) (zex1)
  · refine Y_aload_0 i_X9_all_12 ?_
    refine Y_iload_3 i_X9_all_13 ?_
    refine Y_callV (k' := kX9_refuse) i_X9_all_14 l_X9_72 m_X9_refuse (c_X9_refuse (by omega) (by omega)) rfl rfl rfl rfl rfl ?_
    refine X_iret i_X9_all_17 rfl ?_
    exact zan1 (by unfold w_all; rfl) (by omega)
def w_leaves (M : zMem) (x : Int) : Int := if ¬ (0 ≤ x ∧ x < M 0 6 0) then -1 else 0
def a_leaves (M : zMem) (x : Int) : Int := sN ((sFst (fun q => decide (sRun (M 0) q 3 x = 3)) 100 : Nat) : Int)
set_option maxRecDepth 100000 in
theorem c_X9_leaves {M : zMem} (hI : zIv M) {x : Int} (h_x : zR x) : zCt kX9_leaves 6 [.ref 36, .int (zii x)] M (zAn (w_leaves M x) (.int (zii (w_leaves M x))) (.int (zii (a_leaves M x))) M M) := by
  obtain ⟨hA, hL, hT, hD, hPi, hR1, hR2⟩ := hI
  have h6 := hA.1
  unfold zH at h6
  have b_x := h_x.1
  have c_x := h_x.2
  have hw9 := sFst_le (fun q => decide (sRun (M 0) q 3 x = 3)) 100
  refine zMet (by decide) (Nat.le_of_ble_eq_true rfl) ?_
  show zX kX9_leaves 6 0 [some (.ref 36), some (.int (zii x))] [] _ _
  refine Y_aload_0 i_X9_leaves_0 ?_
  refine X_getR i_X9_leaves_1 f_X9_10 rfl ?_
  refine Y_iload_1 i_X9_leaves_4 ?_
  refine Y_callV (k' := kX0_has) i_X9_leaves_5 l_X9_99 m_X0_has (c_X0_has (i := 0) (M := M) (A := M 0) (by omega) rfl hA.1 ⟨by omega, by omega⟩) rfl rfl rfl rfl rfl ?_
  refine Y_ifq_ne i_X9_leaves_8 (tgt := 17) rfl  (fun h8 => ?_) (fun h8 => ?_)
  · refine Y_aload_0 i_X9_leaves_17 ?_
    refine X_getR i_X9_leaves_18 f_X9_46 rfl ?_
    refine Y_iload_1 i_X9_leaves_21 ?_
    refine Y_callVe (k' := kX7_whenGone) i_X9_leaves_22 l_X9_169 m_X7_whenGone (zctm 1 (c_X7_whenGone (M := M) (A := M 0) (B := M 1) (x := x) rfl hA (by omega) (by omega))) rfl rfl rfl rfl rfl ?_
    intro C9
    refine Y_callS (k' := kX9_noneIfNever) i_X9_leaves_25 l_X9_172 m_X9_noneIfNever (c_X9_noneIfNever ⟨by omega, by omega⟩) rfl rfl rfl rfl ?_
    refine X_iret i_X9_leaves_28 rfl ?_
    exact zan0 (by unfold w_leaves; rw [if_neg (by omega)]) (rfl) (zex1)
  · refine Y_aload_0 i_X9_leaves_11 ?_
    refine X_iconst i_X9_leaves_12 ?_
    refine Y_callV (k' := kX9_refuse) i_X9_leaves_13 l_X9_72 m_X9_refuse (c_X9_refuse (by omega) (by omega)) rfl rfl rfl rfl rfl ?_
    refine X_iret i_X9_leaves_16 rfl ?_
    exact zan1 (by unfold w_leaves; rw [if_pos (by omega)]) (by omega)
def w_gone (M : zMem) (w : Int) : Int := if w < 0 ∨ 2 ≤ w then -2 else 0
def a_gone (M : zMem) (w : Int) : Int := if w = 0 then (if sFg (M 0) = 100 then -9 else sGa (sRun (M 0) (sFg (M 0))) (sG (M 0))) else sN ((sFst (fun q => decide (sAll (sRun (M 0) q) (-1) (sG (M 0)) = true)) 100 : Nat) : Int)
set_option maxRecDepth 100000 in
theorem c_X9_gone {M : zMem} (hI : zIv M) {w : Int} (h_w : zR w) : zCt kX9_gone 6 [.ref 36, .int (zii w)] M (zAn (w_gone M w) (.int (zii (w_gone M w))) (.int (zii (a_gone M w))) M M) := by
  obtain ⟨hA, hL, hT, hD, hPi, hR1, hR2⟩ := hI
  have h6 := hA.1
  unfold zH at h6
  have b_w := h_w.1
  have c_w := h_w.2
  have hw9 := sFst_le (fun q => decide (sAll (sRun (M 0) q) (-1) (sG (M 0)) = true)) 100
  refine zMet (by decide) (Nat.le_of_ble_eq_true rfl) ?_
  show zX kX9_gone 6 0 [some (.ref 36), some (.int (zii w))] [] _ _
  refine Y_iload_1 i_X9_gone_0 ?_
  refine X_iconst i_X9_gone_1 ?_
  refine Y_callS (k' := kX9_isOther) i_X9_gone_2 l_X9_103 m_X9_isOther (c_X9_isOther ⟨by omega, by omega⟩ (zR_lit rfl)) rfl rfl rfl rfl ?_
  refine Y_ifq_eq i_X9_gone_5 (tgt := 15) rfl  (fun h5 => ?_) (fun h5 => ?_)
  · refine Y_iload_1 i_X9_gone_15 ?_
    refine Y_if_ne i_X9_gone_16 (tgt := 29) rfl ⟨by omega, by omega⟩ (fun h16 => ?_) (fun h16 => ?_)
    · refine Y_aload_0 i_X9_gone_29 ?_
      refine X_getR i_X9_gone_30 f_X9_46 rfl ?_
      refine Y_callVe (k' := kX7_whenAllGone) i_X9_gone_33 l_X9_179 m_X7_whenAllGone (zctm 1 (c_X7_whenAllGone (M := M) (A := M 0) (B := M 1) rfl hA)) rfl rfl rfl rfl rfl ?_
      intro C9
      refine Y_callS (k' := kX9_noneIfNever) i_X9_gone_36 l_X9_172 m_X9_noneIfNever (c_X9_noneIfNever ⟨by omega, by omega⟩) rfl rfl rfl rfl ?_
      refine X_iret i_X9_gone_39 rfl ?_
      exact zan0 (by unfold w_gone; rw [if_neg (by omega)]) (by unfold a_gone; rw [if_neg h16]) (zex1)
    · refine Y_aload_0 i_X9_gone_19 ?_
      refine X_getR i_X9_gone_20 f_X9_46 rfl ?_
      refine Y_callVe (k' := kX7_firstGone) i_X9_gone_23 l_X9_175 m_X7_firstGone (zctm 1 (c_X7_firstGone (M := M) (A := M 0) (B := M 1) rfl hA)) rfl rfl rfl rfl rfl ?_
      intro C9
      refine X_goto i_X9_gone_26 (tgt := 39) rfl ?_
      refine X_iret i_X9_gone_39 rfl ?_
      exact zan0 (by unfold w_gone; rw [if_neg (by omega)]) (by unfold a_gone; rw [if_pos h16]) (zex1)
  · refine Y_aload_0 i_X9_gone_8 ?_
    refine X_bipush i_X9_gone_9 (by decide +kernel) ?_
    refine Y_callV (k' := kX9_refuse) i_X9_gone_11 l_X9_72 m_X9_refuse (c_X9_refuse (by omega) (by omega)) rfl rfl rfl rfl rfl ?_
    refine X_iret i_X9_gone_14 rfl ?_
    exact zan1 (by unfold w_gone; rw [if_pos (by omega)]) (by omega)
def w_tastes (M : zMem) (x : Int) : Int := if ¬ (0 ≤ x ∧ x < M 0 6 0) then -1 else 0
def a_tastes (M : zMem) (x : Int) : Int := s9 (sDr (M 0) x)
set_option maxRecDepth 100000 in
theorem c_X9_tastes {M : zMem} (hI : zIv M) {x : Int} (h_x : zR x) : zCt kX9_tastes 5 [.ref 36, .int (zii x)] M (zAn (w_tastes M x) (.int (zii (w_tastes M x))) (.int (zii (a_tastes M x))) M M) := by
  obtain ⟨hA, hL, hT, hD, hPi, hR1, hR2⟩ := hI
  have h6 := hA.1
  unfold zH at h6
  have b_x := h_x.1
  have c_x := h_x.2
  refine zMet (by decide) (Nat.le_of_ble_eq_true rfl) ?_
  show zX kX9_tastes 5 0 [some (.ref 36), some (.int (zii x))] [] _ _
  refine Y_aload_0 i_X9_tastes_0 ?_
  refine X_getR i_X9_tastes_1 f_X9_10 rfl ?_
  refine Y_iload_1 i_X9_tastes_4 ?_
  refine Y_callV (k' := kX0_has) i_X9_tastes_5 l_X9_99 m_X0_has (c_X0_has (i := 0) (M := M) (A := M 0) (by omega) rfl hA.1 ⟨by omega, by omega⟩) rfl rfl rfl rfl rfl ?_
  refine Y_ifq_ne i_X9_tastes_8 (tgt := 17) rfl  (fun h8 => ?_) (fun h8 => ?_)
  · refine Y_aload_0 i_X9_tastes_17 ?_
    refine X_getR i_X9_tastes_18 f_X9_46 rfl ?_
    refine Y_iload_1 i_X9_tastes_21 ?_
    refine Y_callVe (k' := kX7_whenDrinking) i_X9_tastes_22 l_X9_182 m_X7_whenDrinking (zctm 1 (c_X7_whenDrinking (M := M) (A := M 0) (B := M 1) (x := x) rfl hA (by omega) (by omega))) rfl rfl rfl rfl rfl ?_
    intro C9
    refine X_iret i_X9_tastes_25 rfl ?_
    exact zan0 (by unfold w_tastes; rw [if_neg (by omega)]) (rfl) (zex1)
  · refine Y_aload_0 i_X9_tastes_11 ?_
    refine X_iconst i_X9_tastes_12 ?_
    refine Y_callV (k' := kX9_refuse) i_X9_tastes_13 l_X9_72 m_X9_refuse (c_X9_refuse (by omega) (by omega)) rfl rfl rfl rfl rfl ?_
    refine X_iret i_X9_tastes_16 rfl ?_
    exact zan1 (by unfold w_tastes; rw [if_pos (by omega)]) (by omega)
def w_thirsty (M : zMem) (w : Int) : Int := if w < 0 ∨ 2 ≤ w then -2 else 0
def a_thirsty (M : zMem) (w : Int) : Int := if w = 0 then sNv (M 0) 100 else zor (zor (sSet (sRun (M 0) 99) 0 (sG (M 0))) (sSet (sRun (M 0) 99) 1 (sG (M 0)))) (sSet (sRun (M 0) 99) 2 (sG (M 0)))
set_option maxRecDepth 100000 in
theorem c_X9_thirsty {M : zMem} (hI : zIv M) {w : Int} (h_w : zR w) : zCt kX9_thirsty 7 [.ref 36, .int (zii w)] M (zAn (w_thirsty M w) (.int (zii (w_thirsty M w))) (.int (zii (a_thirsty M w))) M M) := by
  obtain ⟨hA, hL, hT, hD, hPi, hR1, hR2⟩ := hI
  have h6 := hA.1
  unfold zH at h6
  have b_w := h_w.1
  have c_w := h_w.2
  refine zMet (by decide) (Nat.le_of_ble_eq_true rfl) ?_
  show zX kX9_thirsty 7 0 [some (.ref 36), some (.int (zii w))] [] _ _
  refine Y_iload_1 i_X9_thirsty_0 ?_
  refine X_iconst i_X9_thirsty_1 ?_
  refine Y_callS (k' := kX9_isOther) i_X9_thirsty_2 l_X9_103 m_X9_isOther (c_X9_isOther ⟨by omega, by omega⟩ (zR_lit rfl)) rfl rfl rfl rfl ?_
  refine Y_ifq_eq i_X9_thirsty_5 (tgt := 15) rfl  (fun h5 => ?_) (fun h5 => ?_)
  · refine Y_iload_1 i_X9_thirsty_15 ?_
    refine Y_if_ne i_X9_thirsty_16 (tgt := 29) rfl ⟨by omega, by omega⟩ (fun h16 => ?_) (fun h16 => ?_)
    · refine Y_aload_0 i_X9_thirsty_29 ?_
      refine X_getR i_X9_thirsty_30 f_X9_46 rfl ?_
      refine Y_callVe (k' := kX7_staying) i_X9_thirsty_33 l_X9_188 m_X7_staying (zctm 1 (c_X7_staying (M := M) (A := M 0) (B := M 1) rfl hA)) rfl rfl rfl rfl rfl ?_
      intro C9
      refine X_iret i_X9_thirsty_36 rfl ?_
      exact zan0 (by unfold w_thirsty; rw [if_neg (by omega)]) (by unfold a_thirsty; rw [if_neg h16]) (zex1)
    · refine Y_aload_0 i_X9_thirsty_19 ?_
      refine X_getR i_X9_thirsty_20 f_X9_46 rfl ?_
      refine Y_callVe (k' := kX7_neverServed) i_X9_thirsty_23 l_X9_185 m_X7_neverServed (zctm 1 (c_X7_neverServed (M := M) (A := M 0) (B := M 1) rfl hA)) rfl rfl rfl rfl rfl ?_
      intro C9
      refine X_goto i_X9_thirsty_26 (tgt := 36) rfl ?_
      refine X_iret i_X9_thirsty_36 rfl ?_
      exact zan0 (by unfold w_thirsty; rw [if_neg (by omega)]) (by unfold a_thirsty; rw [if_pos h16]) (zex1)
  · refine Y_aload_0 i_X9_thirsty_8 ?_
    refine X_bipush i_X9_thirsty_9 (by decide +kernel) ?_
    refine Y_callV (k' := kX9_refuse) i_X9_thirsty_11 l_X9_72 m_X9_refuse (c_X9_refuse (by omega) (by omega)) rfl rfl rfl rfl rfl ?_
    refine X_iret i_X9_thirsty_14 rfl ?_
    exact zan1 (by unfold w_thirsty; rw [if_pos (by omega)]) (by omega)
def w_cupsWanted (M : zMem) (n : Int) : Int := sFa n
def a_cupsWanted (M : zMem) (n : Int) : Int := sFc (M 0) n
set_option maxRecDepth 100000 in
theorem c_X9_cupsWanted {M : zMem} (hI : zIv M) {n : Int} (h_n : zR n) : zCt kX9_cupsWanted 6 [.ref 36, .int (zii n)] M (zAn (w_cupsWanted M n) (.int (zii (w_cupsWanted M n))) (.int (zii (a_cupsWanted M n))) M M) := by
  obtain ⟨hA, hL, hT, hD, hPi, hR1, hR2⟩ := hI
  have h6 := hA.1
  unfold zH at h6
  have b_n := h_n.1
  have c_n := h_n.2
  have hfa := sFa_in n
  refine zMet (by decide) (Nat.le_of_ble_eq_true rfl) ?_
  show zX kX9_cupsWanted 6 0 [some (.ref 36), some (.int (zii n)), none] [] _ _
  refine Y_iload_1 i_X9_cupsWanted_0 ?_
  refine Y_callS (k' := kX9_whyNotFar) i_X9_cupsWanted_1 l_X9_191 m_X9_whyNotFar (c_X9_whyNotFar (n := n) ⟨by omega, by omega⟩) rfl rfl rfl rfl ?_
  refine Y_istore_2 i_X9_cupsWanted_4 rfl rfl ?_
  refine Y_iload_2 i_X9_cupsWanted_5 ?_
  refine X_if_eq i_X9_cupsWanted_6 (tgt := 15) rfl ⟨by omega, by omega⟩ (fun h6 => ?_) (fun h6 => ?_)
  · refine Y_aload_0 i_X9_cupsWanted_15 ?_
    refine X_getR i_X9_cupsWanted_16 f_X9_53 rfl ?_
    refine Y_iload_1 i_X9_cupsWanted_19 ?_
    refine Y_callVe (k' := kX2_fewestCups) i_X9_cupsWanted_20 l_X9_193 m_X2_fewestCups (zctm 1 (c_X2_fewestCups (M := M) (A := M 0) (B := M 1) (v := n) rfl hA ⟨by omega, by omega⟩)) rfl rfl rfl rfl rfl ?_
    intro C9
    refine X_iret i_X9_cupsWanted_23 rfl ?_
    exact zan0 (by unfold w_cupsWanted; exact h6) (rfl) (zex1)
  · refine Y_aload_0 i_X9_cupsWanted_9 ?_
    refine Y_iload_2 i_X9_cupsWanted_10 ?_
    refine Y_callV (k' := kX9_refuse) i_X9_cupsWanted_11 l_X9_72 m_X9_refuse (c_X9_refuse (by omega) (by omega)) rfl rfl rfl rfl rfl ?_
    refine X_iret i_X9_cupsWanted_14 rfl ?_
    exact zan1 (by unfold w_cupsWanted; rfl) (by omega)
def w_bestRule (M : zMem) (w : Int) : Int := if w < 0 ∨ 2 ≤ w then -2 else 0
def a_bestRule (M : zMem) (w : Int) : Int := if w = 0 then sW 100 (fun r => (sTg (zwr (M 0) 6 2 (r : Int)) (-1) : Int)) 0 4 else sLz (sMp (M 0)) 4
set_option maxRecDepth 100000 in
theorem c_X9_bestRule {M : zMem} (hI : zIv M) {w : Int} (h_w : zR w) : zCt kX9_bestRule 6 [.ref 36, .int (zii w)] M (zAn (w_bestRule M w) (.int (zii (w_bestRule M w))) (.int (zii (a_bestRule M w))) M M) := by
  obtain ⟨hA, hL, hT, hD, hPi, hR1, hR2⟩ := hI
  have h6 := hA.1
  unfold zH at h6
  have b_w := h_w.1
  have c_w := h_w.2
  refine zMet (by decide) (Nat.le_of_ble_eq_true rfl) ?_
  show zX kX9_bestRule 6 0 [some (.ref 36), some (.int (zii w))] [] _ _
  refine Y_iload_1 i_X9_bestRule_0 ?_
  refine X_iconst i_X9_bestRule_1 ?_
  refine Y_callS (k' := kX9_isOther) i_X9_bestRule_2 l_X9_103 m_X9_isOther (c_X9_isOther ⟨by omega, by omega⟩ (zR_lit rfl)) rfl rfl rfl rfl ?_
  refine Y_ifq_eq i_X9_bestRule_5 (tgt := 15) rfl  (fun h5 => ?_) (fun h5 => ?_)
  · refine Y_iload_1 i_X9_bestRule_15 ?_
    refine Y_if_ne i_X9_bestRule_16 (tgt := 29) rfl ⟨by omega, by omega⟩ (fun h16 => ?_) (fun h16 => ?_)
    · refine Y_aload_0 i_X9_bestRule_29 ?_
      refine X_getR i_X9_bestRule_30 f_X9_53 rfl ?_
      refine Y_callVe (k' := kX2_mostPouredRule) i_X9_bestRule_33 l_X9_199 m_X2_mostPouredRule (zctm 1 (c_X2_mostPouredRule (M := M) (A := M 0) (B := M 1) rfl hA)) rfl rfl rfl rfl rfl ?_
      intro C9
      refine X_iret i_X9_bestRule_36 rfl ?_
      exact zan0 (by unfold w_bestRule; rw [if_neg (by omega)]) (by unfold a_bestRule; rw [if_neg h16]) (zex1)
    · refine Y_aload_0 i_X9_bestRule_19 ?_
      refine X_getR i_X9_bestRule_20 f_X9_53 rfl ?_
      refine Y_callVe (k' := kX2_soonestRule) i_X9_bestRule_23 l_X9_196 m_X2_soonestRule (zctm 1 (c_X2_soonestRule (M := M) (A := M 0) (B := M 1) rfl hA)) rfl rfl rfl rfl rfl ?_
      intro C9
      refine X_goto i_X9_bestRule_26 (tgt := 36) rfl ?_
      refine X_iret i_X9_bestRule_36 rfl ?_
      exact zan0 (by unfold w_bestRule; rw [if_neg (by omega)]) (by unfold a_bestRule; rw [if_pos h16]) (zex1)
  · refine Y_aload_0 i_X9_bestRule_8 ?_
    refine X_bipush i_X9_bestRule_9 (by decide +kernel) ?_
    refine Y_callV (k' := kX9_refuse) i_X9_bestRule_11 l_X9_72 m_X9_refuse (c_X9_refuse (by omega) (by omega)) rfl rfl rfl rfl rfl ?_
    refine X_iret i_X9_bestRule_14 rfl ?_
    exact zan1 (by unfold w_bestRule; rw [if_pos (by omega)]) (by omega)
def w_rising (M : zMem) (w : Int) : Int := if w < 0 ∨ 2 ≤ w then -2 else 0
def a_rising (M : zMem) (w : Int) : Int := if w = 0 then sW 100 (sRg (M 0)) (-9) 64 else sN (sS 100 (sRg (M 0)) 64)
set_option maxRecDepth 100000 in
theorem c_X9_rising {M : zMem} (hI : zIv M) {w : Int} (h_w : zR w) : zCt kX9_rising 6 [.ref 36, .int (zii w)] M (zAn (w_rising M w) (.int (zii (w_rising M w))) (.int (zii (a_rising M w))) M M) := by
  obtain ⟨hA, hL, hT, hD, hPi, hR1, hR2⟩ := hI
  have h6 := hA.1
  unfold zH at h6
  have b_w := h_w.1
  have c_w := h_w.2
  refine zMet (by decide) (Nat.le_of_ble_eq_true rfl) ?_
  show zX kX9_rising 6 0 [some (.ref 36), some (.int (zii w))] [] _ _
  refine Y_iload_1 i_X9_rising_0 ?_
  refine X_iconst i_X9_rising_1 ?_
  refine Y_callS (k' := kX9_isOther) i_X9_rising_2 l_X9_103 m_X9_isOther (c_X9_isOther ⟨by omega, by omega⟩ (zR_lit rfl)) rfl rfl rfl rfl ?_
  refine Y_ifq_eq i_X9_rising_5 (tgt := 15) rfl  (fun h5 => ?_) (fun h5 => ?_)
  · refine Y_aload_0 i_X9_rising_15 ?_
    refine X_getR i_X9_rising_16 f_X9_53 rfl ?_
    refine Y_iload_1 i_X9_rising_19 ?_
    refine Y_callVe (k' := kX2_soonestRising) i_X9_rising_20 l_X9_202 m_X2_soonestRising (zctm 1 (c_X2_soonestRising (M := M) (A := M 0) (B := M 1) (w := w) rfl hA ⟨by omega, by omega⟩)) rfl rfl rfl rfl rfl ?_
    intro C9
    refine X_iret i_X9_rising_23 rfl ?_
    exact zan0 (by unfold w_rising; rw [if_neg (by omega)]) (rfl) (zex1)
  · refine Y_aload_0 i_X9_rising_8 ?_
    refine X_bipush i_X9_rising_9 (by decide +kernel) ?_
    refine Y_callV (k' := kX9_refuse) i_X9_rising_11 l_X9_72 m_X9_refuse (c_X9_refuse (by omega) (by omega)) rfl rfl rfl rfl rfl ?_
    refine X_iret i_X9_rising_14 rfl ?_
    exact zan1 (by unfold w_rising; rw [if_pos (by omega)]) (by omega)
def w_bestRise (M : zMem) (x : Int) (w : Int) : Int := if ¬ (0 ≤ x ∧ x < M 0 6 0) then -1 else if w < 0 ∨ 2 ≤ w then -2 else 0
def a_bestRise (M : zMem) (x : Int) (w : Int) : Int := if w = 0 then sW 100 (fun m => (sWr (M 0) x (m : Int) : Int)) (-9) 31 else sN (sS 100 (fun m => (sWr (M 0) x (m : Int) : Int)) 31)
set_option maxRecDepth 100000 in
theorem c_X9_bestRise {M : zMem} (hI : zIv M) {x : Int} (h_x : zR x) {w : Int} (h_w : zR w) : zCt kX9_bestRise 6 [.ref 36, .int (zii x), .int (zii w)] M (zAn (w_bestRise M x w) (.int (zii (w_bestRise M x w))) (.int (zii (a_bestRise M x w))) M M) := by
  obtain ⟨hA, hL, hT, hD, hPi, hR1, hR2⟩ := hI
  have h6 := hA.1
  unfold zH at h6
  have b_x := h_x.1
  have c_x := h_x.2
  have b_w := h_w.1
  have c_w := h_w.2
  refine zMet (by decide) (Nat.le_of_ble_eq_true rfl) ?_
  show zX kX9_bestRise 6 0 [some (.ref 36), some (.int (zii x)), some (.int (zii w))] [] _ _
  refine Y_aload_0 i_X9_bestRise_0 ?_
  refine X_getR i_X9_bestRise_1 f_X9_10 rfl ?_
  refine Y_iload_1 i_X9_bestRise_4 ?_
  refine Y_callV (k' := kX0_has) i_X9_bestRise_5 l_X9_99 m_X0_has (c_X0_has (i := 0) (M := M) (A := M 0) (by omega) rfl hA.1 ⟨by omega, by omega⟩) rfl rfl rfl rfl rfl ?_
  refine Y_ifq_ne i_X9_bestRise_8 (tgt := 17) rfl  (fun h8 => ?_) (fun h8 => ?_)
  · refine Y_iload_2 i_X9_bestRise_17 ?_
    refine X_iconst i_X9_bestRise_18 ?_
    refine Y_callS (k' := kX9_isOther) i_X9_bestRise_19 l_X9_103 m_X9_isOther (c_X9_isOther ⟨by omega, by omega⟩ (zR_lit rfl)) rfl rfl rfl rfl ?_
    refine Y_ifq_eq i_X9_bestRise_22 (tgt := 32) rfl  (fun h22 => ?_) (fun h22 => ?_)
    · refine Y_aload_0 i_X9_bestRise_32 ?_
      refine X_getR i_X9_bestRise_33 f_X9_53 rfl ?_
      refine Y_iload_1 i_X9_bestRise_36 ?_
      refine Y_iload_2 i_X9_bestRise_37 ?_
      refine Y_callVe (k' := kX2_soonestRiseOf) i_X9_bestRise_38 l_X9_205 m_X2_soonestRiseOf (zctm 1 (c_X2_soonestRiseOf (M := M) (A := M 0) (B := M 1) (x := x) (w := w) rfl hA (by omega) (by omega) ⟨by omega, by omega⟩)) rfl rfl rfl rfl rfl ?_
      intro C9
      refine X_iret i_X9_bestRise_41 rfl ?_
      exact zan0 (by unfold w_bestRise; rw [if_neg (by omega), if_neg (by omega)]) (rfl) (zex1)
    · refine Y_aload_0 i_X9_bestRise_25 ?_
      refine X_bipush i_X9_bestRise_26 (by decide +kernel) ?_
      refine Y_callV (k' := kX9_refuse) i_X9_bestRise_28 l_X9_72 m_X9_refuse (c_X9_refuse (by omega) (by omega)) rfl rfl rfl rfl rfl ?_
      refine X_iret i_X9_bestRise_31 rfl ?_
      exact zan1 (by unfold w_bestRise; rw [if_neg (by omega), if_pos (by omega)]) (by omega)
  · refine Y_aload_0 i_X9_bestRise_11 ?_
    refine X_iconst i_X9_bestRise_12 ?_
    refine Y_callV (k' := kX9_refuse) i_X9_bestRise_13 l_X9_72 m_X9_refuse (c_X9_refuse (by omega) (by omega)) rfl rfl rfl rfl rfl ?_
    refine X_iret i_X9_bestRise_16 rfl ?_
    exact zan1 (by unfold w_bestRise; rw [if_pos (by omega)]) (by omega)
def w_two (M : zMem) (x : Int) (y : Int) : Int := if ¬ ((0 ≤ x ∧ x < M 0 6 0) ∧ (0 ≤ y ∧ y < M 0 6 0) ∧ x ≠ y) then -1 else if M 0 3 x ≠ 0 ∨ M 0 3 y ≠ 0 then -3 else 0
def a_two (M : zMem) (x : Int) (y : Int) : Int := sBa (M 0) x.toNat y.toNat
set_option maxRecDepth 100000 in
theorem c_X9_two {M : zMem} (hI : zIv M) {x : Int} (h_x : zR x) {y : Int} (h_y : zR y) : zCt kX9_two 6 [.ref 36, .int (zii x), .int (zii y)] M (zAn (w_two M x y) (.int (zii (w_two M x y))) (.int (zii (a_two M x y))) M M) := by
  obtain ⟨hA, hL, hT, hD, hPi, hR1, hR2⟩ := hI
  have h6 := hA.1
  unfold zH at h6
  have b_x := h_x.1
  have c_x := h_x.2
  have b_y := h_y.1
  have c_y := h_y.2
  have hG := sG_le hA.1
  refine zMet (by decide) (Nat.le_of_ble_eq_true rfl) ?_
  show zX kX9_two 6 0 [some (.ref 36), some (.int (zii x)), some (.int (zii y))] [] _ _
  refine Y_aload_0 i_X9_two_0 ?_
  refine X_getR i_X9_two_1 f_X9_10 rfl ?_
  refine Y_iload_1 i_X9_two_4 ?_
  refine Y_iload_2 i_X9_two_5 ?_
  refine Y_callV (k' := kX0_areTwo) i_X9_two_6 l_X9_208 m_X0_areTwo (c_X0_areTwo (i := 0) (M := M) (A := M 0) (x := x) (y := y) (by omega) rfl hA.1 ⟨by omega, by omega⟩ ⟨by omega, by omega⟩) rfl rfl rfl rfl rfl ?_
  refine Y_ifq_ne i_X9_two_9 (tgt := 18) rfl  (fun h9 => ?_) (fun h9 => ?_)
  · have hgx := hA.2 x (by omega) (by omega)
    have hgy := hA.2 y (by omega) (by omega)
    unfold zG at hgx hgy
    refine Y_aload_0 i_X9_two_18 ?_
    refine X_getR i_X9_two_19 f_X9_10 rfl ?_
    refine X_getR i_X9_two_22 f_X9_134 rfl ?_
    refine Y_iload_1 i_X9_two_25 ?_
    refine Y_iald i_X9_two_26 rfl ⟨by omega, by omega⟩ rfl rfl ?_
    refine Y_if_ne i_X9_two_27 (tgt := 42) rfl ⟨by omega, by omega⟩ (fun h27 => ?_) (fun h27 => ?_)
    · refine Y_aload_0 i_X9_two_42 ?_
      refine X_bipush i_X9_two_43 (by decide +kernel) ?_
      refine Y_callV (k' := kX9_refuse) i_X9_two_45 l_X9_72 m_X9_refuse (c_X9_refuse (by omega) (by omega)) rfl rfl rfl rfl rfl ?_
      refine X_iret i_X9_two_48 rfl ?_
      exact zan1 (by unfold w_two; rw [if_neg (by omega), if_pos (by omega)]) (by omega)
    · refine Y_aload_0 i_X9_two_30 ?_
      refine X_getR i_X9_two_31 f_X9_10 rfl ?_
      refine X_getR i_X9_two_34 f_X9_134 rfl ?_
      refine Y_iload_2 i_X9_two_37 ?_
      refine Y_iald i_X9_two_38 rfl ⟨by omega, by omega⟩ rfl rfl ?_
      refine X_if_eq i_X9_two_39 (tgt := 49) rfl ⟨by omega, by omega⟩ (fun h39 => ?_) (fun h39 => ?_)
      · obtain ⟨x9, rfl⟩ : ∃ t : Nat, x = t := ⟨x.toNat, by omega⟩
        obtain ⟨y9, rfl⟩ : ∃ t : Nat, y = t := ⟨y.toNat, by omega⟩
        refine Y_aload_0 i_X9_two_49 ?_
        refine X_getR i_X9_two_50 f_X9_53 rfl ?_
        refine Y_iload_1 i_X9_two_53 ?_
        refine Y_iload_2 i_X9_two_54 ?_
        refine Y_callVq (k' := kX2_balanceOf) i_X9_two_55 l_X9_211 m_X2_balanceOf (zctm2 7 1 (c_X2_balanceOf (M := M) (A := M 0) (B := M 1) (L := M 7) (x := x9) (y := y9) rfl hA (by omega) (by omega) (by omega))) rfl rfl rfl rfl rfl ?_
        intro r9 M9 hr9
        obtain ⟨rfl, L9, C9, rfl⟩ := hr9
        change zX _ _ _ _ (.int _ :: []) _ _
        refine X_iret i_X9_two_58 rfl ?_
        exact zan0 (by unfold w_two; rw [if_neg (by omega), if_neg (by omega)]) (rfl) (zex7)
      · refine Y_aload_0 i_X9_two_42 ?_
        refine X_bipush i_X9_two_43 (by decide +kernel) ?_
        refine Y_callV (k' := kX9_refuse) i_X9_two_45 l_X9_72 m_X9_refuse (c_X9_refuse (by omega) (by omega)) rfl rfl rfl rfl rfl ?_
        refine X_iret i_X9_two_48 rfl ?_
        exact zan1 (by unfold w_two; rw [if_neg (by omega), if_pos (by omega)]) (by omega)
  · refine Y_aload_0 i_X9_two_12 ?_
    refine X_iconst i_X9_two_13 ?_
    refine Y_callV (k' := kX9_refuse) i_X9_two_14 l_X9_72 m_X9_refuse (c_X9_refuse (by omega) (by omega)) rfl rfl rfl rfl rfl ?_
    refine X_iret i_X9_two_17 rfl ?_
    exact zan1 (by unfold w_two; rw [if_pos (by omega)]) (by omega)
def w_rest (M : zMem) (w : Int) : Int := if w < 0 ∨ 2 ≤ w then -2 else 0
def a_rest (M : zMem) (w : Int) : Int := sAtr (M 0) w
set_option maxRecDepth 100000 in
theorem c_X9_rest {M : zMem} (hI : zIv M) {w : Int} (h_w : zR w) : zCt kX9_rest 6 [.ref 36, .int (zii w)] M (zAn (w_rest M w) (.int (zii (w_rest M w))) (.int (zii (a_rest M w))) M M) := by
  obtain ⟨hA, hL, hT, hD, hPi, hR1, hR2⟩ := hI
  have h6 := hA.1
  unfold zH at h6
  have b_w := h_w.1
  have c_w := h_w.2
  refine zMet (by decide) (Nat.le_of_ble_eq_true rfl) ?_
  show zX kX9_rest 6 0 [some (.ref 36), some (.int (zii w))] [] _ _
  refine Y_iload_1 i_X9_rest_0 ?_
  refine X_iconst i_X9_rest_1 ?_
  refine Y_callS (k' := kX9_isOther) i_X9_rest_2 l_X9_103 m_X9_isOther (c_X9_isOther ⟨by omega, by omega⟩ (zR_lit rfl)) rfl rfl rfl rfl ?_
  refine Y_ifq_eq i_X9_rest_5 (tgt := 15) rfl  (fun h5 => ?_) (fun h5 => ?_)
  · refine Y_aload_0 i_X9_rest_15 ?_
    refine X_getR i_X9_rest_16 f_X9_53 rfl ?_
    refine Y_iload_1 i_X9_rest_19 ?_
    refine Y_callVq (k' := kX2_atRest) i_X9_rest_20 l_X9_214 m_X2_atRest (zctm2 7 1 (c_X2_atRest (M := M) (A := M 0) (B := M 1) (L := M 7) (w := w) rfl hA ⟨by omega, by omega⟩)) rfl rfl rfl rfl rfl ?_
    intro r9 M9 hr9
    obtain ⟨rfl, L9, C9, rfl⟩ := hr9
    change zX _ _ _ _ (.int _ :: []) _ _
    refine X_iret i_X9_rest_23 rfl ?_
    exact zan0 (by unfold w_rest; rw [if_neg (by omega)]) (rfl) (zex7)
  · refine Y_aload_0 i_X9_rest_8 ?_
    refine X_bipush i_X9_rest_9 (by decide +kernel) ?_
    refine Y_callV (k' := kX9_refuse) i_X9_rest_11 l_X9_72 m_X9_refuse (c_X9_refuse (by omega) (by omega)) rfl rfl rfl rfl rfl ?_
    refine X_iret i_X9_rest_14 rfl ?_
    exact zan1 (by unfold w_rest; rw [if_pos (by omega)]) (by omega)
def w_garden (M : zMem) (x : Int) : Int := if ¬ (0 ≤ x ∧ x < M 0 6 0) then -1 else if M 0 3 x = 3 then -3 else 0
def a_garden (M : zMem) (x : Int) : Int := (sTg (M 0) x : Nat) - (sTg (zwr (M 0) 3 x 3) x : Nat)
set_option maxRecDepth 100000 in
theorem c_X9_garden {M : zMem} (hI : zIv M) {x : Int} (h_x : zR x) : zCt kX9_garden 7 [.ref 36, .int (zii x)] M (zAn (w_garden M x) (.int (zii (1000000000 - (w_garden M x)))) (.int (zii (a_garden M x))) M M) := by
  obtain ⟨hA, hL, hT, hD, hPi, hR1, hR2⟩ := hI
  have h6 := hA.1
  unfold zH at h6
  have b_x := h_x.1
  have c_x := h_x.2
  refine zMet (by decide) (Nat.le_of_ble_eq_true rfl) ?_
  show zX kX9_garden 7 0 [some (.ref 36), some (.int (zii x))] [] _ _
  refine Y_aload_0 i_X9_garden_0 ?_
  refine X_getR i_X9_garden_1 f_X9_10 rfl ?_
  refine Y_iload_1 i_X9_garden_4 ?_
  refine Y_callV (k' := kX0_has) i_X9_garden_5 l_X9_99 m_X0_has (c_X0_has (i := 0) (M := M) (A := M 0) (by omega) rfl hA.1 ⟨by omega, by omega⟩) rfl rfl rfl rfl rfl ?_
  refine Y_ifq_ne i_X9_garden_8 (tgt := 17) rfl  (fun h8 => ?_) (fun h8 => ?_)
  · have hgx := hA.2 x (by omega) (by omega)
    unfold zG at hgx
    refine Y_aload_0 i_X9_garden_17 ?_
    refine X_getR i_X9_garden_18 f_X9_10 rfl ?_
    refine X_getR i_X9_garden_21 f_X9_134 rfl ?_
    refine Y_iload_1 i_X9_garden_24 ?_
    refine Y_iald i_X9_garden_25 rfl ⟨by omega, by omega⟩ rfl rfl ?_
    refine X_iconst i_X9_garden_26 ?_
    refine Y_icmp_ne i_X9_garden_27 (tgt := 37) rfl ⟨by omega, by omega⟩ ⟨by omega, by omega⟩ (fun h27 => ?_) (fun h27 => ?_)
    · refine Y_aload_0 i_X9_garden_37 ?_
      refine X_getR i_X9_garden_38 f_X9_53 rfl ?_
      refine Y_iload_1 i_X9_garden_41 ?_
      refine Y_callVe (k' := kX2_gainWithout) i_X9_garden_42 l_X9_220 m_X2_gainWithout (zctm 1 (c_X2_gainWithout (M := M) (A := M 0) (B := M 1) (x := x) rfl hA (by omega) (by omega))) rfl rfl rfl rfl rfl ?_
      intro C9
      refine X_iret i_X9_garden_45 rfl ?_
      exact zan0 (by unfold w_garden; rw [if_neg (by omega), if_neg (by omega)]) (rfl) (zex1)
    · refine Y_aload_0 i_X9_garden_30 ?_
      refine X_bipush i_X9_garden_31 (by decide +kernel) ?_
      refine Y_callV (k' := kX9_refuseLoudly) i_X9_garden_33 l_X9_217 m_X9_refuseLoudly (c_X9_refuseLoudly (by omega) (by omega)) rfl rfl rfl rfl rfl ?_
      refine X_iret i_X9_garden_36 rfl ?_
      exact zan2 (by unfold w_garden; rw [if_neg (by omega), if_pos (by omega)]) (by omega)
  · refine Y_aload_0 i_X9_garden_11 ?_
    refine X_iconst i_X9_garden_12 ?_
    refine Y_callV (k' := kX9_refuseLoudly) i_X9_garden_13 l_X9_217 m_X9_refuseLoudly (c_X9_refuseLoudly (by omega) (by omega)) rfl rfl rfl rfl rfl ?_
    refine X_iret i_X9_garden_16 rfl ?_
    exact zan2 (by unfold w_garden; rw [if_pos (by omega)]) (by omega)
def w_served (M : zMem) (x : Int) : Int := if x < 0 then -4 else 0
def a_served (M : zMem) (x : Int) : Int := sSv (M 0) x
set_option maxRecDepth 100000 in
theorem c_X9_served {M : zMem} (hI : zIv M) {x : Int} (h_x : zR x) : zCt kX9_served 4 [.ref 36, .int (zii x)] M (zAn (w_served M x) (.int (zii (w_served M x))) (.int (zii (a_served M x))) M M) := by
  obtain ⟨hA, hL, hT, hD, hPi, hR1, hR2⟩ := hI
  have h6 := hA.1
  unfold zH at h6
  have b_x := h_x.1
  have c_x := h_x.2
  refine zMet (by decide) (Nat.le_of_ble_eq_true rfl) ?_
  show zX kX9_served 4 0 [some (.ref 36), some (.int (zii x))] [] _ _
  refine Y_iload_1 i_X9_served_0 ?_
  refine X_if_ge i_X9_served_1 (tgt := 11) rfl ⟨by omega, by omega⟩ (fun h1 => ?_) (fun h1 => ?_)
  · refine Y_aload_0 i_X9_served_11 ?_
    refine X_getR i_X9_served_12 f_X9_46 rfl ?_
    refine Y_iload_1 i_X9_served_15 ?_
    refine Y_callVe (k' := kX7_servedAs) i_X9_served_16 l_X9_223 m_X7_servedAs (zctm 1 (c_X7_servedAs (M := M) (A := M 0) (B := M 1) (x := x) rfl hA (by omega) ⟨by omega, by omega⟩)) rfl rfl rfl rfl rfl ?_
    intro C9
    refine X_iret i_X9_served_19 rfl ?_
    exact zan0 (by unfold w_served; rw [if_neg (by omega)]) (rfl) (zex1)
  · refine Y_aload_0 i_X9_served_4 ?_
    refine X_bipush i_X9_served_5 (by decide +kernel) ?_
    refine Y_callV (k' := kX9_refuse) i_X9_served_7 l_X9_72 m_X9_refuse (c_X9_refuse (by omega) (by omega)) rfl rfl rfl rfl rfl ?_
    refine X_iret i_X9_served_10 rfl ?_
    exact zan1 (by unfold w_served; rw [if_pos (by omega)]) (by omega)
def w_who (M : zMem) (x : Int) (w : Int) : Int := if ¬ (0 ≤ x ∧ x < M 0 6 0) then -1 else if w < 0 ∨ 3 ≤ w then -2 else 0
def a_who (M : zMem) (x : Int) (w : Int) : Int := if w = 2 then zbc (sFit (M 0) (M 5) x w (sMo w + 1)) else sFit (M 0) (M 5) x w (sMo w + 1)
set_option maxRecDepth 100000 in
theorem c_X9_who {M : zMem} (hI : zIv M) {x : Int} (h_x : zR x) {w : Int} (h_w : zR w) : zCt kX9_who 6 [.ref 36, .int (zii x), .int (zii w)] M (zAn (w_who M x w) (.int (zii (w_who M x w))) (.int (zii (a_who M x w))) M M) := by
  obtain ⟨hA, hL, hT, hD, hPi, hR1, hR2⟩ := hI
  have h6 := hA.1
  unfold zH at h6
  have b_x := h_x.1
  have c_x := h_x.2
  have b_w := h_w.1
  have c_w := h_w.2
  refine zMet (by decide) (Nat.le_of_ble_eq_true rfl) ?_
  show zX kX9_who 6 0 [some (.ref 36), some (.int (zii x)), some (.int (zii w)), none] [] _ _
  refine Y_aload_0 i_X9_who_0 ?_
  refine X_getR i_X9_who_1 f_X9_10 rfl ?_
  refine Y_iload_1 i_X9_who_4 ?_
  refine Y_callV (k' := kX0_has) i_X9_who_5 l_X9_99 m_X0_has (c_X0_has (i := 0) (M := M) (A := M 0) (by omega) rfl hA.1 ⟨by omega, by omega⟩) rfl rfl rfl rfl rfl ?_
  refine Y_ifq_ne i_X9_who_8 (tgt := 17) rfl  (fun h8 => ?_) (fun h8 => ?_)
  · refine Y_iload_2 i_X9_who_17 ?_
    refine X_iconst i_X9_who_18 ?_
    refine Y_callS (k' := kX9_isOther) i_X9_who_19 l_X9_103 m_X9_isOther (c_X9_isOther ⟨by omega, by omega⟩ (zR_lit rfl)) rfl rfl rfl rfl ?_
    refine Y_ifq_eq i_X9_who_22 (tgt := 32) rfl  (fun h22 => ?_) (fun h22 => ?_)
    · refine Y_aload_0 i_X9_who_32 ?_
      refine X_getR i_X9_who_33 f_X9_60 rfl ?_
      refine Y_iload_1 i_X9_who_36 ?_
      refine Y_iload_2 i_X9_who_37 ?_
      refine Y_aload_0 i_X9_who_38 ?_
      refine X_getR i_X9_who_39 f_X9_31 rfl ?_
      refine Y_callVe (k' := kX4_fitting) i_X9_who_42 l_X9_226 m_X4_fitting (zctm 1 (c_X4_fitting (M := M) (A := M 0) (B := M 1) (x := x) (w := w) rfl hA hT (by omega) (by omega) (by omega) (by omega))) rfl rfl rfl rfl rfl ?_
      intro C9
      refine Y_istore_3 i_X9_who_45 rfl rfl ?_
      refine Y_iload_2 i_X9_who_46 ?_
      refine X_iconst i_X9_who_47 ?_
      refine Y_icmp_ne i_X9_who_48 (tgt := 58) rfl ⟨by omega, by omega⟩ ⟨by omega, by omega⟩ (fun h48 => ?_) (fun h48 => ?_)
      · refine Y_iload_3 i_X9_who_58 ?_
        refine X_iret i_X9_who_59 rfl ?_
        exact zan0 (by unfold w_who; rw [if_neg (by omega), if_neg (by omega)]) (by unfold a_who; rw [if_neg h48]) (zex1)
      · refine Y_iload_3 i_X9_who_51 ?_
        refine Y_callS (k' := kJ6_bitCount_0f7a4) i_X9_who_52 l_X9_230 m_J6_bitCount_0f7a4 c_J6_bitCount rfl rfl rfl rfl ?_
        refine X_goto i_X9_who_55 (tgt := 59) rfl ?_
        refine X_iret i_X9_who_59 rfl ?_
        exact zan0 (by unfold w_who; rw [if_neg (by omega), if_neg (by omega)]) (by unfold a_who; rw [if_pos (by omega)]) (zex1)
    · refine Y_aload_0 i_X9_who_25 ?_
      refine X_bipush i_X9_who_26 (by decide +kernel) ?_
      refine Y_callV (k' := kX9_refuse) i_X9_who_28 l_X9_72 m_X9_refuse (c_X9_refuse (by omega) (by omega)) rfl rfl rfl rfl rfl ?_
      refine X_iret i_X9_who_31 rfl ?_
      exact zan1 (by unfold w_who; rw [if_neg (by omega), if_pos (by omega)]) (by omega)
  · refine Y_aload_0 i_X9_who_11 ?_
    refine X_iconst i_X9_who_12 ?_
    refine Y_callV (k' := kX9_refuse) i_X9_who_13 l_X9_72 m_X9_refuse (c_X9_refuse (by omega) (by omega)) rfl rfl rfl rfl rfl ?_
    refine X_iret i_X9_who_16 rfl ?_
    exact zan1 (by unfold w_who; rw [if_pos (by omega)]) (by omega)
def w_look (M : zMem) (x : Int) (w : Int) : Int := if ¬ (0 ≤ x ∧ x < M 0 6 0) then -1 else if w < 0 ∨ 2 ≤ w then -2 else 0
def a_look (M : zMem) (x : Int) (w : Int) : Int := if w = 0 then ((sBb (sFb (M 0) x) 30 : Nat) : Int) else sFb (M 0) x (sBb (sFb (M 0) x) 30)
set_option maxRecDepth 100000 in
theorem c_X9_look {M : zMem} (hI : zIv M) {x : Int} (h_x : zR x) {w : Int} (h_w : zR w) : zCt kX9_look 6 [.ref 36, .int (zii x), .int (zii w)] M (zAn (w_look M x w) (.int (zii (w_look M x w))) (.int (zii (a_look M x w))) M M) := by
  obtain ⟨hA, hL, hT, hD, hPi, hR1, hR2⟩ := hI
  have h6 := hA.1
  unfold zH at h6
  have b_x := h_x.1
  have c_x := h_x.2
  have b_w := h_w.1
  have c_w := h_w.2
  refine zMet (by decide) (Nat.le_of_ble_eq_true rfl) ?_
  show zX kX9_look 6 0 [some (.ref 36), some (.int (zii x)), some (.int (zii w))] [] _ _
  refine Y_aload_0 i_X9_look_0 ?_
  refine X_getR i_X9_look_1 f_X9_10 rfl ?_
  refine Y_iload_1 i_X9_look_4 ?_
  refine Y_callV (k' := kX0_has) i_X9_look_5 l_X9_99 m_X0_has (c_X0_has (i := 0) (M := M) (A := M 0) (by omega) rfl hA.1 ⟨by omega, by omega⟩) rfl rfl rfl rfl rfl ?_
  refine Y_ifq_ne i_X9_look_8 (tgt := 17) rfl  (fun h8 => ?_) (fun h8 => ?_)
  · refine Y_iload_2 i_X9_look_17 ?_
    refine X_iconst i_X9_look_18 ?_
    refine Y_callS (k' := kX9_isOther) i_X9_look_19 l_X9_103 m_X9_isOther (c_X9_isOther ⟨by omega, by omega⟩ (zR_lit rfl)) rfl rfl rfl rfl ?_
    refine Y_ifq_eq i_X9_look_22 (tgt := 32) rfl  (fun h22 => ?_) (fun h22 => ?_)
    · refine Y_aload_0 i_X9_look_32 ?_
      refine X_getR i_X9_look_33 f_X9_60 rfl ?_
      refine Y_iload_1 i_X9_look_36 ?_
      refine Y_iload_2 i_X9_look_37 ?_
      refine Y_callVq (k' := kX4_mostUnlike) i_X9_look_38 l_X9_235 m_X4_mostUnlike (zctm2 8 1 (c_X4_mostUnlike (T := 30) rfl (M := M) (A := M 0) (B := M 1) (S := M 8) (x := x) (w := w) rfl hA (by omega) (by omega) ⟨by omega, by omega⟩)) rfl rfl rfl rfl rfl ?_
      intro r9 M9 hr9
      obtain ⟨rfl, L9, C9, rfl⟩ := hr9
      change zX _ _ _ _ (.int _ :: []) _ _
      refine X_iret i_X9_look_41 rfl ?_
      exact zan0 (by unfold w_look; rw [if_neg (by omega), if_neg (by omega)]) (rfl) (zex8)
    · refine Y_aload_0 i_X9_look_25 ?_
      refine X_bipush i_X9_look_26 (by decide +kernel) ?_
      refine Y_callV (k' := kX9_refuse) i_X9_look_28 l_X9_72 m_X9_refuse (c_X9_refuse (by omega) (by omega)) rfl rfl rfl rfl rfl ?_
      refine X_iret i_X9_look_31 rfl ?_
      exact zan1 (by unfold w_look; rw [if_neg (by omega), if_pos (by omega)]) (by omega)
  · refine Y_aload_0 i_X9_look_11 ?_
    refine X_iconst i_X9_look_12 ?_
    refine Y_callV (k' := kX9_refuse) i_X9_look_13 l_X9_72 m_X9_refuse (c_X9_refuse (by omega) (by omega)) rfl rfl rfl rfl rfl ?_
    refine X_iret i_X9_look_16 rfl ?_
    exact zan1 (by unfold w_look; rw [if_pos (by omega)]) (by omega)
def w_away (M : zMem) (x : Int) (n : Int) (y : Int) (w : Int) : Int := if ¬ (0 ≤ x ∧ x < M 0 6 0) then -1 else if n < 0 ∨ y < 2 then -4 else if 8 < n ∨ 20 < y then -6 else if w < 0 ∨ 2 ≤ w then -2 else 0
def a_away (M : zMem) (x : Int) (n : Int) (y : Int) (w : Int) : Int := sPart (sAv (M 0) x n.toNat y.toNat (2 ^ n.toNat)) (y.toNat ^ n.toNat) w
set_option maxRecDepth 100000 in
theorem c_X9_away {M : zMem} (hI : zIv M) {x : Int} (h_x : zR x) {n : Int} (h_n : zR n) {y : Int} (h_y : zR y) {w : Int} (h_w : zR w) : zCt kX9_away 6 [.ref 36, .int (zii x), .int (zii n), .int (zii y), .int (zii w)] M (zAn (w_away M x n y w) (.long (zll (4000000000000000000 - (w_away M x n y w)))) (.long (zll (a_away M x n y w))) M M) := by
  obtain ⟨hA, hL, hT, hD, hPi, hR1, hR2⟩ := hI
  have h6 := hA.1
  unfold zH at h6
  have b_x := h_x.1
  have c_x := h_x.2
  have b_n := h_n.1
  have c_n := h_n.2
  have b_y := h_y.1
  have c_y := h_y.2
  have b_w := h_w.1
  have c_w := h_w.2
  refine zMet (by decide) (Nat.le_of_ble_eq_true rfl) ?_
  show zX kX9_away 6 0 [some (.ref 36), some (.int (zii x)), some (.int (zii n)), some (.int (zii y)), some (.int (zii w))] [] _ _
  refine Y_aload_0 i_X9_away_0 ?_
  refine X_getR i_X9_away_1 f_X9_10 rfl ?_
  refine Y_iload_1 i_X9_away_4 ?_
  refine Y_callV (k' := kX0_has) i_X9_away_5 l_X9_99 m_X0_has (c_X0_has (i := 0) (M := M) (A := M 0) (by omega) rfl hA.1 ⟨by omega, by omega⟩) rfl rfl rfl rfl rfl ?_
  refine Y_ifq_ne i_X9_away_8 (tgt := 17) rfl  (fun h8 => ?_) (fun h8 => ?_)
  · refine Y_iload_2 i_X9_away_17 ?_
    refine X_if_lt i_X9_away_18 (tgt := 26) rfl ⟨by omega, by omega⟩ (fun h18 => ?_) (fun h18 => ?_)
    · refine Y_aload_0 i_X9_away_26 ?_
      refine X_bipush i_X9_away_27 (by decide +kernel) ?_
      refine Y_callV (k' := kX9_refuseLong) i_X9_away_29 l_X9_238 m_X9_refuseLong (c_X9_refuseLong (by omega) (by omega)) rfl rfl rfl rfl rfl ?_
      refine X_lret i_X9_away_32 rfl ?_
      exact zan3 (by unfold w_away; rw [if_neg (by omega), if_pos (by omega)]) (by omega)
    · refine Y_iload_3 i_X9_away_21 ?_
      refine X_iconst i_X9_away_22 ?_
      refine X_icmp_ge i_X9_away_23 (tgt := 33) rfl ⟨by omega, by omega⟩ ⟨by omega, by omega⟩ (fun h23 => ?_) (fun h23 => ?_)
      · refine Y_iload_2 i_X9_away_33 ?_
        refine X_bipush i_X9_away_34 (by decide +kernel) ?_
        refine X_icmp_gt i_X9_away_36 (tgt := 45) rfl ⟨by omega, by omega⟩ ⟨by omega, by omega⟩ (fun h36 => ?_) (fun h36 => ?_)
        · refine Y_aload_0 i_X9_away_45 ?_
          refine X_bipush i_X9_away_46 (by decide +kernel) ?_
          refine Y_callV (k' := kX9_refuseLong) i_X9_away_48 l_X9_238 m_X9_refuseLong (c_X9_refuseLong (by omega) (by omega)) rfl rfl rfl rfl rfl ?_
          refine X_lret i_X9_away_51 rfl ?_
          exact zan3 (by unfold w_away; rw [if_neg (by omega), if_neg (by omega), if_pos (by omega)]) (by omega)
        · refine Y_iload_3 i_X9_away_39 ?_
          refine X_bipush i_X9_away_40 (by decide +kernel) ?_
          refine X_icmp_le i_X9_away_42 (tgt := 52) rfl ⟨by omega, by omega⟩ ⟨by omega, by omega⟩ (fun h42 => ?_) (fun h42 => ?_)
          · refine Y_iload_4 i_X9_away_52 ?_
            refine X_iconst i_X9_away_54 ?_
            refine Y_callS (k' := kX9_isOther) i_X9_away_55 l_X9_103 m_X9_isOther (c_X9_isOther ⟨by omega, by omega⟩ (zR_lit rfl)) rfl rfl rfl rfl ?_
            refine Y_ifq_eq i_X9_away_58 (tgt := 68) rfl  (fun h58 => ?_) (fun h58 => ?_)
            · obtain ⟨n9, rfl⟩ : ∃ t : Nat, n = t := ⟨n.toNat, by omega⟩
              obtain ⟨y9, rfl⟩ : ∃ t : Nat, y = t := ⟨y.toNat, by omega⟩
              refine Y_aload_0 i_X9_away_68 ?_
              refine X_getR i_X9_away_69 f_X9_60 rfl ?_
              refine Y_iload_1 i_X9_away_72 ?_
              refine Y_iload_2 i_X9_away_73 ?_
              refine Y_iload_3 i_X9_away_74 ?_
              refine Y_iload_4 i_X9_away_75 ?_
              refine Y_callVe (k' := kX4_likelyServed) i_X9_away_77 l_X9_242 m_X4_likelyServed (zctm 1 (c_X4_likelyServed (M := M) (A := M 0) (B := M 1) (x := x) (w := w) (n := n9) (t := y9) rfl hA (by omega) (by omega) (by omega) (by omega) (by omega) ⟨by omega, by omega⟩)) rfl rfl rfl rfl rfl ?_
              intro C9
              refine X_lret i_X9_away_80 rfl ?_
              exact zan0 (by unfold w_away; rw [if_neg (by omega), if_neg (by omega), if_neg (by omega), if_neg (by omega)]) (rfl) (zex1)
            · refine Y_aload_0 i_X9_away_61 ?_
              refine X_bipush i_X9_away_62 (by decide +kernel) ?_
              refine Y_callV (k' := kX9_refuseLong) i_X9_away_64 l_X9_238 m_X9_refuseLong (c_X9_refuseLong (by omega) (by omega)) rfl rfl rfl rfl rfl ?_
              refine X_lret i_X9_away_67 rfl ?_
              exact zan3 (by unfold w_away; rw [if_neg (by omega), if_neg (by omega), if_neg (by omega), if_pos (by omega)]) (by omega)
          · refine Y_aload_0 i_X9_away_45 ?_
            refine X_bipush i_X9_away_46 (by decide +kernel) ?_
            refine Y_callV (k' := kX9_refuseLong) i_X9_away_48 l_X9_238 m_X9_refuseLong (c_X9_refuseLong (by omega) (by omega)) rfl rfl rfl rfl rfl ?_
            refine X_lret i_X9_away_51 rfl ?_
            exact zan3 (by unfold w_away; rw [if_neg (by omega), if_neg (by omega), if_pos (by omega)]) (by omega)
      · refine Y_aload_0 i_X9_away_26 ?_
        refine X_bipush i_X9_away_27 (by decide +kernel) ?_
        refine Y_callV (k' := kX9_refuseLong) i_X9_away_29 l_X9_238 m_X9_refuseLong (c_X9_refuseLong (by omega) (by omega)) rfl rfl rfl rfl rfl ?_
        refine X_lret i_X9_away_32 rfl ?_
        exact zan3 (by unfold w_away; rw [if_neg (by omega), if_pos (by omega)]) (by omega)
  · refine Y_aload_0 i_X9_away_11 ?_
    refine X_iconst i_X9_away_12 ?_
    refine Y_callV (k' := kX9_refuseLong) i_X9_away_13 l_X9_238 m_X9_refuseLong (c_X9_refuseLong (by omega) (by omega)) rfl rfl rfl rfl rfl ?_
    refine X_lret i_X9_away_16 rfl ?_
    exact zan3 (by unfold w_away; rw [if_pos (by omega)]) (by omega)
def w_crowd (M : zMem) (n : Int) (w : Int) : Int := sFb2 n w 2
def a_crowd (M : zMem) (n : Int) (w : Int) : Int := if w = 0 then sCm (M 0) (n.toNat + 1) else sCw (M 0) (n.toNat + 1)
set_option maxRecDepth 100000 in
theorem c_X9_crowd {M : zMem} (hI : zIv M) {n : Int} (h_n : zR n) {w : Int} (h_w : zR w) : zCt kX9_crowd 5 [.ref 36, .int (zii n), .int (zii w)] M (zAn (w_crowd M n w) (.int (zii (w_crowd M n w))) (.int (zii (a_crowd M n w))) M M) := by
  obtain ⟨hA, hL, hT, hD, hPi, hR1, hR2⟩ := hI
  have h6 := hA.1
  unfold zH at h6
  have b_n := h_n.1
  have c_n := h_n.2
  have b_w := h_w.1
  have c_w := h_w.2
  have hfa := sFb2_in n w 2
  refine zMet (by decide) (Nat.le_of_ble_eq_true rfl) ?_
  show zX kX9_crowd 5 0 [some (.ref 36), some (.int (zii n)), some (.int (zii w)), none] [] _ _
  refine Y_iload_1 i_X9_crowd_0 ?_
  refine Y_iload_2 i_X9_crowd_1 ?_
  refine X_iconst i_X9_crowd_2 ?_
  refine Y_callS (k' := kX9_whyNotFar_) i_X9_crowd_3 l_X9_160 m_X9_whyNotFar_ (c_X9_whyNotFar_ (n := n) (w := w) (k := 2) ⟨by omega, by omega⟩ ⟨by omega, by omega⟩ (zR_lit rfl)) rfl rfl rfl rfl ?_
  refine Y_istore_3 i_X9_crowd_6 rfl rfl ?_
  refine Y_iload_3 i_X9_crowd_7 ?_
  refine X_if_eq i_X9_crowd_8 (tgt := 17) rfl ⟨by omega, by omega⟩ (fun h8 => ?_) (fun h8 => ?_)
  · obtain ⟨t, rfl⟩ : ∃ t : Nat, n = t := ⟨n.toNat, by omega⟩
    refine Y_aload_0 i_X9_crowd_17 ?_
    refine X_getR i_X9_crowd_18 f_X9_46 rfl ?_
    refine Y_iload_1 i_X9_crowd_21 ?_
    refine Y_iload_2 i_X9_crowd_22 ?_
    refine Y_callVe (k' := kX7_mostStanding) i_X9_crowd_23 l_X9_246 m_X7_mostStanding (zctm 1 (c_X7_mostStanding (M := M) (A := M 0) (B := M 1) (t := t) (w := w) rfl hA (by omega) ⟨by omega, by omega⟩)) rfl rfl rfl rfl rfl ?_
    intro C9
    refine X_iret i_X9_crowd_26 rfl ?_
    exact zan0 (by unfold w_crowd; exact h8) (rfl) (zex1)
  · refine Y_aload_0 i_X9_crowd_11 ?_
    refine Y_iload_3 i_X9_crowd_12 ?_
    refine Y_callV (k' := kX9_refuse) i_X9_crowd_13 l_X9_72 m_X9_refuse (c_X9_refuse (by omega) (by omega)) rfl rfl rfl rfl rfl ?_
    refine X_iret i_X9_crowd_16 rfl ?_
    exact zan1 (by unfold w_crowd; rfl) (by omega)
def w_caller (M : zMem) (w : Int) : Int := if w < 0 ∨ 2 ≤ w then -2 else if 6 ≤ M 0 6 0 then -3 else 0
def a_caller (M : zMem) (w : Int) : Int := if w = 0 then sW 100 (fun k => (sWh (sCome (M 0) (k : Int) 5 5) (M 0 6 0) : Int)) (-9) 6 else sN (sS 100 (fun k => (sWh (sCome (M 0) (k : Int) 5 5) (M 0 6 0) : Int)) 6)
set_option maxRecDepth 100000 in
theorem c_X9_caller {M : zMem} (hI : zIv M) {w : Int} (h_w : zR w) : zCt kX9_caller 6 [.ref 36, .int (zii w)] M (zAn (w_caller M w) (.int (zii (w_caller M w))) (.int (zii (a_caller M w))) M M) := by
  obtain ⟨hA, hL, hT, hD, hPi, hR1, hR2⟩ := hI
  have h6 := hA.1
  unfold zH at h6
  have b_w := h_w.1
  have c_w := h_w.2
  refine zMet (by decide) (Nat.le_of_ble_eq_true rfl) ?_
  show zX kX9_caller 6 0 [some (.ref 36), some (.int (zii w))] [] _ _
  refine Y_iload_1 i_X9_caller_0 ?_
  refine X_iconst i_X9_caller_1 ?_
  refine Y_callS (k' := kX9_isOther) i_X9_caller_2 l_X9_103 m_X9_isOther (c_X9_isOther ⟨by omega, by omega⟩ (zR_lit rfl)) rfl rfl rfl rfl ?_
  refine Y_ifq_eq i_X9_caller_5 (tgt := 15) rfl  (fun h5 => ?_) (fun h5 => ?_)
  · refine Y_aload_0 i_X9_caller_15 ?_
    refine X_getR i_X9_caller_16 f_X9_10 rfl ?_
    refine Y_getI i_X9_caller_19 f_X9_249 rfl rfl ?_
    refine X_bipush i_X9_caller_22 (by decide +kernel) ?_
    refine X_icmp_lt i_X9_caller_24 (tgt := 34) rfl ⟨by omega, by omega⟩ ⟨by omega, by omega⟩ (fun h24 => ?_) (fun h24 => ?_)
    · refine Y_aload_0 i_X9_caller_34 ?_
      refine X_getR i_X9_caller_35 f_X9_53 rfl ?_
      refine Y_iload_1 i_X9_caller_38 ?_
      refine Y_callVe (k' := kX2_soonestCaller) i_X9_caller_39 l_X9_252 m_X2_soonestCaller (zctm 1 (c_X2_soonestCaller (M := M) (A := M 0) (B := M 1) (w := w) rfl hA (by omega) ⟨by omega, by omega⟩)) rfl rfl rfl rfl rfl ?_
      intro C9
      refine X_iret i_X9_caller_42 rfl ?_
      exact zan0 (by unfold w_caller; rw [if_neg (by omega), if_neg (by omega)]) (rfl) (zex1)
    · refine Y_aload_0 i_X9_caller_27 ?_
      refine X_bipush i_X9_caller_28 (by decide +kernel) ?_
      refine Y_callV (k' := kX9_refuse) i_X9_caller_30 l_X9_72 m_X9_refuse (c_X9_refuse (by omega) (by omega)) rfl rfl rfl rfl rfl ?_
      refine X_iret i_X9_caller_33 rfl ?_
      exact zan1 (by unfold w_caller; rw [if_neg (by omega), if_pos (by omega)]) (by omega)
  · refine Y_aload_0 i_X9_caller_8 ?_
    refine X_bipush i_X9_caller_9 (by decide +kernel) ?_
    refine Y_callV (k' := kX9_refuse) i_X9_caller_11 l_X9_72 m_X9_refuse (c_X9_refuse (by omega) (by omega)) rfl rfl rfl rfl rfl ?_
    refine X_iret i_X9_caller_14 rfl ?_
    exact zan1 (by unfold w_caller; rw [if_pos (by omega)]) (by omega)
def w_stuck (M : zMem) : Int := 0
def a_stuck (M : zMem) : Int := if sMany (sRun (M 0) 99) 1 = 0 ∧ sMany (sRun (M 0) 99) 2 = 0 ∧ 0 < sMany (sRun (M 0) 99) 0 then 1 else 0
set_option maxRecDepth 100000 in
theorem c_X9_stuck {M : zMem} (hI : zIv M) : zCt kX9_stuck 7 [.ref 36] M (zAn (w_stuck M) (.int (zii (w_stuck M))) (.int (zii (a_stuck M))) M M) := by
  obtain ⟨hA, hL, hT, hD, hPi, hR1, hR2⟩ := hI
  have h6 := hA.1
  unfold zH at h6
  refine zMet (by decide) (Nat.le_of_ble_eq_true rfl) ?_
  show zX kX9_stuck 7 0 [some (.ref 36)] [] _ _
  refine Y_aload_0 i_X9_stuck_0 ?_
  refine X_getR i_X9_stuck_1 f_X9_46 rfl ?_
  refine Y_callVe (k' := kX7_isStuck) i_X9_stuck_4 l_X9_255 m_X7_isStuck (zctm 1 (c_X7_isStuck (M := M) (A := M 0) (B := M 1) rfl hA)) rfl rfl rfl rfl rfl ?_
  intro C9
  refine Y_ifq_eq i_X9_stuck_7 (tgt := 14) rfl  (fun h7 => ?_) (fun h7 => ?_)
  · refine X_iconst i_X9_stuck_14 ?_
    refine X_iret i_X9_stuck_15 rfl ?_
    exact zan0 (rfl) (by unfold a_stuck; rw [if_neg h7]) (zex1)
  · refine X_iconst i_X9_stuck_10 ?_
    refine X_goto i_X9_stuck_11 (tgt := 15) rfl ?_
    refine X_iret i_X9_stuck_15 rfl ?_
    exact zan0 (rfl) (by unfold a_stuck; rw [if_pos h7]) (zex1)
def w_longest (M : zMem) (n : Int) (w : Int) : Int := sFb2 n w 2
def a_longest (M : zMem) (n : Int) (w : Int) : Int := if w = 0 then sLw (sMS (M 0) n.toNat) (sG (M 0)) else sLm (sMS (M 0) n.toNat) (sG (M 0))
set_option maxRecDepth 100000 in
theorem c_X9_longest {M : zMem} (hI : zIv M) {n : Int} (h_n : zR n) {w : Int} (h_w : zR w) : zCt kX9_longest 6 [.ref 36, .int (zii n), .int (zii w)] M (zAn (w_longest M n w) (.int (zii (w_longest M n w))) (.int (zii (a_longest M n w))) M M) := by
  obtain ⟨hA, hL, hT, hD, hPi, hR1, hR2⟩ := hI
  have h6 := hA.1
  unfold zH at h6
  have b_n := h_n.1
  have c_n := h_n.2
  have b_w := h_w.1
  have c_w := h_w.2
  have hfa := sFb2_in n w 2
  refine zMet (by decide) (Nat.le_of_ble_eq_true rfl) ?_
  show zX kX9_longest 6 0 [some (.ref 36), some (.int (zii n)), some (.int (zii w)), none] [] _ _
  refine Y_iload_1 i_X9_longest_0 ?_
  refine Y_iload_2 i_X9_longest_1 ?_
  refine X_iconst i_X9_longest_2 ?_
  refine Y_callS (k' := kX9_whyNotFar_) i_X9_longest_3 l_X9_160 m_X9_whyNotFar_ (c_X9_whyNotFar_ (n := n) (w := w) (k := 2) ⟨by omega, by omega⟩ ⟨by omega, by omega⟩ (zR_lit rfl)) rfl rfl rfl rfl ?_
  refine Y_istore_3 i_X9_longest_6 rfl rfl ?_
  refine Y_iload_3 i_X9_longest_7 ?_
  refine X_if_eq i_X9_longest_8 (tgt := 17) rfl ⟨by omega, by omega⟩ (fun h8 => ?_) (fun h8 => ?_)
  · obtain ⟨t, rfl⟩ : ∃ t : Nat, n = t := ⟨n.toNat, by omega⟩
    refine Y_aload_0 i_X9_longest_17 ?_
    refine X_getR i_X9_longest_18 f_X9_46 rfl ?_
    refine Y_iload_1 i_X9_longest_21 ?_
    refine Y_iload_2 i_X9_longest_22 ?_
    refine Y_callVe (k' := kX7_longestStanding) i_X9_longest_23 l_X9_258 m_X7_longestStanding (zctm 1 (c_X7_longestStanding (M := M) (A := M 0) (B := M 1) (t := t) (w := w) rfl hA (by omega) ⟨by omega, by omega⟩)) rfl rfl rfl rfl rfl ?_
    intro C9
    refine X_iret i_X9_longest_26 rfl ?_
    exact zan0 (by unfold w_longest; exact h8) (rfl) (zex1)
  · refine Y_aload_0 i_X9_longest_11 ?_
    refine Y_iload_3 i_X9_longest_12 ?_
    refine Y_callV (k' := kX9_refuse) i_X9_longest_13 l_X9_72 m_X9_refuse (c_X9_refuse (by omega) (by omega)) rfl rfl rfl rfl rfl ?_
    refine X_iret i_X9_longest_16 rfl ?_
    exact zan1 (by unfold w_longest; rfl) (by omega)
def w_leaver (M : zMem) (x : Int) : Int := if x < 0 then -4 else 0
def a_leaver (M : zMem) (x : Int) : Int := sLe (M 0) x
set_option maxRecDepth 100000 in
theorem c_X9_leaver {M : zMem} (hI : zIv M) {x : Int} (h_x : zR x) : zCt kX9_leaver 5 [.ref 36, .int (zii x)] M (zAn (w_leaver M x) (.int (zii (w_leaver M x))) (.int (zii (a_leaver M x))) M M) := by
  obtain ⟨hA, hL, hT, hD, hPi, hR1, hR2⟩ := hI
  have h6 := hA.1
  unfold zH at h6
  have b_x := h_x.1
  have c_x := h_x.2
  refine zMet (by decide) (Nat.le_of_ble_eq_true rfl) ?_
  show zX kX9_leaver 5 0 [some (.ref 36), some (.int (zii x))] [] _ _
  refine Y_iload_1 i_X9_leaver_0 ?_
  refine X_if_ge i_X9_leaver_1 (tgt := 11) rfl ⟨by omega, by omega⟩ (fun h1 => ?_) (fun h1 => ?_)
  · refine Y_aload_0 i_X9_leaver_11 ?_
    refine X_getR i_X9_leaver_12 f_X9_46 rfl ?_
    refine Y_iload_1 i_X9_leaver_15 ?_
    refine Y_callVe (k' := kX7_leaverAt) i_X9_leaver_16 l_X9_261 m_X7_leaverAt (zctm 1 (c_X7_leaverAt (M := M) (A := M 0) (B := M 1) (x := x) rfl hA (by omega) ⟨by omega, by omega⟩)) rfl rfl rfl rfl rfl ?_
    intro C9
    refine X_iret i_X9_leaver_19 rfl ?_
    exact zan0 (by unfold w_leaver; rw [if_neg (by omega)]) (rfl) (zex1)
  · refine Y_aload_0 i_X9_leaver_4 ?_
    refine X_bipush i_X9_leaver_5 (by decide +kernel) ?_
    refine Y_callV (k' := kX9_refuse) i_X9_leaver_7 l_X9_72 m_X9_refuse (c_X9_refuse (by omega) (by omega)) rfl rfl rfl rfl rfl ?_
    refine X_iret i_X9_leaver_10 rfl ?_
    exact zan1 (by unfold w_leaver; rw [if_pos (by omega)]) (by omega)
def w_waited (M : zMem) (n : Int) (w : Int) : Int := sFb2 n w 2
def a_waited (M : zMem) (n : Int) (w : Int) : Int := if w = 0 then sSum (s_X7_minutesStood (M 0)) n.toNat else sSum (s_X7_cupsIdle (M 0)) n.toNat
set_option maxRecDepth 100000 in
theorem c_X9_waited {M : zMem} (hI : zIv M) {n : Int} (h_n : zR n) {w : Int} (h_w : zR w) : zCt kX9_waited 5 [.ref 36, .int (zii n), .int (zii w)] M (zAn (w_waited M n w) (.int (zii (w_waited M n w))) (.int (zii (a_waited M n w))) M M) := by
  obtain ⟨hA, hL, hT, hD, hPi, hR1, hR2⟩ := hI
  have h6 := hA.1
  unfold zH at h6
  have b_n := h_n.1
  have c_n := h_n.2
  have b_w := h_w.1
  have c_w := h_w.2
  have hfa := sFb2_in n w 2
  refine zMet (by decide) (Nat.le_of_ble_eq_true rfl) ?_
  show zX kX9_waited 5 0 [some (.ref 36), some (.int (zii n)), some (.int (zii w)), none] [] _ _
  refine Y_iload_1 i_X9_waited_0 ?_
  refine Y_iload_2 i_X9_waited_1 ?_
  refine X_iconst i_X9_waited_2 ?_
  refine Y_callS (k' := kX9_whyNotFar_) i_X9_waited_3 l_X9_160 m_X9_whyNotFar_ (c_X9_whyNotFar_ (n := n) (w := w) (k := 2) ⟨by omega, by omega⟩ ⟨by omega, by omega⟩ (zR_lit rfl)) rfl rfl rfl rfl ?_
  refine Y_istore_3 i_X9_waited_6 rfl rfl ?_
  refine Y_iload_3 i_X9_waited_7 ?_
  refine X_if_eq i_X9_waited_8 (tgt := 17) rfl ⟨by omega, by omega⟩ (fun h8 => ?_) (fun h8 => ?_)
  · obtain ⟨t, rfl⟩ : ∃ t : Nat, n = t := ⟨n.toNat, by omega⟩
    refine Y_iload_2 i_X9_waited_17 ?_
    refine Y_if_ne i_X9_waited_18 (tgt := 32) rfl ⟨by omega, by omega⟩ (fun h18 => ?_) (fun h18 => ?_)
    · refine Y_aload_0 i_X9_waited_32 ?_
      refine X_getR i_X9_waited_33 f_X9_46 rfl ?_
      refine Y_iload_1 i_X9_waited_36 ?_
      refine Y_callVe (k' := kX7_cupsIdle) i_X9_waited_37 l_X9_267 m_X7_cupsIdle (zctm 1 (c_X7_cupsIdle (M := M) (A := M 0) (B := M 1) (t := t) rfl hA (by omega))) rfl rfl rfl rfl rfl ?_
      intro C9
      refine X_iret i_X9_waited_40 rfl ?_
      exact zan0 (by unfold w_waited; exact h8) (by unfold a_waited; rw [if_neg h18]; rfl) (zex1)
    · refine Y_aload_0 i_X9_waited_21 ?_
      refine X_getR i_X9_waited_22 f_X9_46 rfl ?_
      refine Y_iload_1 i_X9_waited_25 ?_
      refine Y_callVe (k' := kX7_minutesStood) i_X9_waited_26 l_X9_264 m_X7_minutesStood (zctm 1 (c_X7_minutesStood (M := M) (A := M 0) (B := M 1) (t := t) rfl hA (by omega))) rfl rfl rfl rfl rfl ?_
      intro C9
      refine X_goto i_X9_waited_29 (tgt := 40) rfl ?_
      refine X_iret i_X9_waited_40 rfl ?_
      exact zan0 (by unfold w_waited; exact h8) (by unfold a_waited; rw [if_pos h18]; rfl) (zex1)
  · refine Y_aload_0 i_X9_waited_11 ?_
    refine Y_iload_3 i_X9_waited_12 ?_
    refine Y_callV (k' := kX9_refuse) i_X9_waited_13 l_X9_72 m_X9_refuse (c_X9_refuse (by omega) (by omega)) rfl rfl rfl rfl rfl ?_
    refine X_iret i_X9_waited_16 rfl ?_
    exact zan1 (by unfold w_waited; rfl) (by omega)
def w_bestOf (M : zMem) (x : Int) (w : Int) : Int := if ¬ (0 ≤ x ∧ x < M 0 6 0) then -1 else if w < 0 ∨ 2 ≤ w then -2 else 0
def a_bestOf (M : zMem) (x : Int) (w : Int) : Int := if w = 0 then sW 100 (fun v => (sWh (sRe (M 0) x 1 (v : Int)) x : Int)) (-9) 10 else sW 100 (fun v => (sWh (sRe (M 0) x 2 (v : Int)) x : Int)) (-9) 31
set_option maxRecDepth 100000 in
theorem c_X9_bestOf {M : zMem} (hI : zIv M) {x : Int} (h_x : zR x) {w : Int} (h_w : zR w) : zCt kX9_bestOf 6 [.ref 36, .int (zii x), .int (zii w)] M (zAn (w_bestOf M x w) (.int (zii (w_bestOf M x w))) (.int (zii (a_bestOf M x w))) M M) := by
  obtain ⟨hA, hL, hT, hD, hPi, hR1, hR2⟩ := hI
  have h6 := hA.1
  unfold zH at h6
  have b_x := h_x.1
  have c_x := h_x.2
  have b_w := h_w.1
  have c_w := h_w.2
  refine zMet (by decide) (Nat.le_of_ble_eq_true rfl) ?_
  show zX kX9_bestOf 6 0 [some (.ref 36), some (.int (zii x)), some (.int (zii w))] [] _ _
  refine Y_aload_0 i_X9_bestOf_0 ?_
  refine X_getR i_X9_bestOf_1 f_X9_10 rfl ?_
  refine Y_iload_1 i_X9_bestOf_4 ?_
  refine Y_callV (k' := kX0_has) i_X9_bestOf_5 l_X9_99 m_X0_has (c_X0_has (i := 0) (M := M) (A := M 0) (by omega) rfl hA.1 ⟨by omega, by omega⟩) rfl rfl rfl rfl rfl ?_
  refine Y_ifq_ne i_X9_bestOf_8 (tgt := 17) rfl  (fun h8 => ?_) (fun h8 => ?_)
  · refine Y_iload_2 i_X9_bestOf_17 ?_
    refine X_iconst i_X9_bestOf_18 ?_
    refine Y_callS (k' := kX9_isOther) i_X9_bestOf_19 l_X9_103 m_X9_isOther (c_X9_isOther ⟨by omega, by omega⟩ (zR_lit rfl)) rfl rfl rfl rfl ?_
    refine Y_ifq_eq i_X9_bestOf_22 (tgt := 32) rfl  (fun h22 => ?_) (fun h22 => ?_)
    · refine Y_iload_2 i_X9_bestOf_32 ?_
      refine Y_if_ne i_X9_bestOf_33 (tgt := 50) rfl ⟨by omega, by omega⟩ (fun h33 => ?_) (fun h33 => ?_)
      · refine Y_aload_0 i_X9_bestOf_50 ?_
        refine X_getR i_X9_bestOf_51 f_X9_53 rfl ?_
        refine Y_iload_1 i_X9_bestOf_54 ?_
        refine X_iconst i_X9_bestOf_55 ?_
        refine X_bipush i_X9_bestOf_56 (by decide +kernel) ?_
        refine Y_callVe (k' := kX2_soonestAs) i_X9_bestOf_58 l_X9_270 m_X2_soonestAs (zctm 1 (c_X2_soonestAs (M := M) (A := M 0) (B := M 1) (x := x) (w := 2) (t := 30) rfl hA (by omega) (by omega) (by omega))) rfl rfl rfl rfl rfl ?_
        intro C9
        refine X_iret i_X9_bestOf_61 rfl ?_
        exact zan0 (by unfold w_bestOf; rw [if_neg (by omega), if_neg (by omega)]) (by unfold a_bestOf; rw [if_neg h33]) (zex1)
      · refine Y_aload_0 i_X9_bestOf_36 ?_
        refine X_getR i_X9_bestOf_37 f_X9_53 rfl ?_
        refine Y_iload_1 i_X9_bestOf_40 ?_
        refine X_iconst i_X9_bestOf_41 ?_
        refine X_bipush i_X9_bestOf_42 (by decide +kernel) ?_
        refine Y_callVe (k' := kX2_soonestAs) i_X9_bestOf_44 l_X9_270 m_X2_soonestAs (zctm 1 (c_X2_soonestAs (M := M) (A := M 0) (B := M 1) (x := x) (w := 1) (t := 9) rfl hA (by omega) (by omega) (by omega))) rfl rfl rfl rfl rfl ?_
        intro C9
        refine X_goto i_X9_bestOf_47 (tgt := 61) rfl ?_
        refine X_iret i_X9_bestOf_61 rfl ?_
        exact zan0 (by unfold w_bestOf; rw [if_neg (by omega), if_neg (by omega)]) (by unfold a_bestOf; rw [if_pos h33]) (zex1)
    · refine Y_aload_0 i_X9_bestOf_25 ?_
      refine X_bipush i_X9_bestOf_26 (by decide +kernel) ?_
      refine Y_callV (k' := kX9_refuse) i_X9_bestOf_28 l_X9_72 m_X9_refuse (c_X9_refuse (by omega) (by omega)) rfl rfl rfl rfl rfl ?_
      refine X_iret i_X9_bestOf_31 rfl ?_
      exact zan1 (by unfold w_bestOf; rw [if_neg (by omega), if_pos (by omega)]) (by omega)
  · refine Y_aload_0 i_X9_bestOf_11 ?_
    refine X_iconst i_X9_bestOf_12 ?_
    refine Y_callV (k' := kX9_refuse) i_X9_bestOf_13 l_X9_72 m_X9_refuse (c_X9_refuse (by omega) (by omega)) rfl rfl rfl rfl rfl ?_
    refine X_iret i_X9_bestOf_16 rfl ?_
    exact zan1 (by unfold w_bestOf; rw [if_pos (by omega)]) (by omega)
def w_kept (M : zMem) (x : Int) : Int := if ¬ (0 ≤ x ∧ x < M 0 6 0) then -1 else if M 0 3 x = 3 ∨ M 0 3 x = 2 then -3 else 0
def a_kept (M : zMem) (x : Int) : Int := (sTg (M 0) x : Nat) - (sTg (zwr (zwr (M 0) 0 x 5) 3 x 0) x : Nat)
set_option maxRecDepth 100000 in
theorem c_X9_kept {M : zMem} (hI : zIv M) {x : Int} (h_x : zR x) : zCt kX9_kept 7 [.ref 36, .int (zii x)] M (zAn (w_kept M x) (.int (zii (1000000000 - (w_kept M x)))) (.int (zii (a_kept M x))) M M) := by
  obtain ⟨hA, hL, hT, hD, hPi, hR1, hR2⟩ := hI
  have h6 := hA.1
  unfold zH at h6
  have b_x := h_x.1
  have c_x := h_x.2
  refine zMet (by decide) (Nat.le_of_ble_eq_true rfl) ?_
  show zX kX9_kept 7 0 [some (.ref 36), some (.int (zii x)), none] [] _ _
  refine Y_aload_0 i_X9_kept_0 ?_
  refine X_getR i_X9_kept_1 f_X9_10 rfl ?_
  refine Y_iload_1 i_X9_kept_4 ?_
  refine Y_callV (k' := kX0_has) i_X9_kept_5 l_X9_99 m_X0_has (c_X0_has (i := 0) (M := M) (A := M 0) (by omega) rfl hA.1 ⟨by omega, by omega⟩) rfl rfl rfl rfl rfl ?_
  refine Y_ifq_ne i_X9_kept_8 (tgt := 17) rfl  (fun h8 => ?_) (fun h8 => ?_)
  · have hgx := hA.2 x (by omega) (by omega)
    unfold zG at hgx
    refine Y_aload_0 i_X9_kept_17 ?_
    refine X_getR i_X9_kept_18 f_X9_10 rfl ?_
    refine X_getR i_X9_kept_21 f_X9_134 rfl ?_
    refine Y_iload_1 i_X9_kept_24 ?_
    refine Y_iald i_X9_kept_25 rfl ⟨by omega, by omega⟩ rfl rfl ?_
    refine Y_istore_2 i_X9_kept_26 rfl rfl ?_
    refine Y_iload_2 i_X9_kept_27 ?_
    refine X_iconst i_X9_kept_28 ?_
    refine X_icmp_eq i_X9_kept_29 (tgt := 37) rfl ⟨by omega, by omega⟩ ⟨by omega, by omega⟩ (fun h29 => ?_) (fun h29 => ?_)
    · refine Y_aload_0 i_X9_kept_37 ?_
      refine X_bipush i_X9_kept_38 (by decide +kernel) ?_
      refine Y_callV (k' := kX9_refuseLoudly) i_X9_kept_40 l_X9_217 m_X9_refuseLoudly (c_X9_refuseLoudly (by omega) (by omega)) rfl rfl rfl rfl rfl ?_
      refine X_iret i_X9_kept_43 rfl ?_
      exact zan2 (by unfold w_kept; rw [if_neg (by omega), if_pos (by omega)]) (by omega)
    · refine Y_iload_2 i_X9_kept_32 ?_
      refine X_iconst i_X9_kept_33 ?_
      refine Y_icmp_ne i_X9_kept_34 (tgt := 44) rfl ⟨by omega, by omega⟩ ⟨by omega, by omega⟩ (fun h34 => ?_) (fun h34 => ?_)
      · refine Y_aload_0 i_X9_kept_44 ?_
        refine X_getR i_X9_kept_45 f_X9_53 rfl ?_
        refine Y_iload_1 i_X9_kept_48 ?_
        refine Y_callVe (k' := kX2_gainWithCray) i_X9_kept_49 l_X9_273 m_X2_gainWithCray (zctm 1 (c_X2_gainWithCray (M := M) (A := M 0) (B := M 1) (x := x) rfl hA (by omega) (by omega) (by omega))) rfl rfl rfl rfl rfl ?_
        intro C9
        refine X_iret i_X9_kept_52 rfl ?_
        exact zan0 (by unfold w_kept; rw [if_neg (by omega), if_neg (by omega)]) (rfl) (zex1)
      · refine Y_aload_0 i_X9_kept_37 ?_
        refine X_bipush i_X9_kept_38 (by decide +kernel) ?_
        refine Y_callV (k' := kX9_refuseLoudly) i_X9_kept_40 l_X9_217 m_X9_refuseLoudly (c_X9_refuseLoudly (by omega) (by omega)) rfl rfl rfl rfl rfl ?_
        refine X_iret i_X9_kept_43 rfl ?_
        exact zan2 (by unfold w_kept; rw [if_neg (by omega), if_pos (by omega)]) (by omega)
  · refine Y_aload_0 i_X9_kept_11 ?_
    refine X_iconst i_X9_kept_12 ?_
    refine Y_callV (k' := kX9_refuseLoudly) i_X9_kept_13 l_X9_217 m_X9_refuseLoudly (c_X9_refuseLoudly (by omega) (by omega)) rfl rfl rfl rfl rfl ?_
    refine X_iret i_X9_kept_16 rfl ?_
    exact zan2 (by unfold w_kept; rw [if_pos (by omega)]) (by omega)
def w_dry (M : zMem) (n : Int) : Int := sFa n
def a_dry (M : zMem) (n : Int) : Int := sDry (sRun (M 0) n.toNat) (sG (M 0))
set_option maxRecDepth 100000 in
theorem c_X9_dry {M : zMem} (hI : zIv M) {n : Int} (h_n : zR n) : zCt kX9_dry 7 [.ref 36, .int (zii n)] M (zAn (w_dry M n) (.int (zii (w_dry M n))) (.int (zii (a_dry M n))) M M) := by
  obtain ⟨hA, hL, hT, hD, hPi, hR1, hR2⟩ := hI
  have h6 := hA.1
  unfold zH at h6
  have b_n := h_n.1
  have c_n := h_n.2
  have hfa := sFa_in n
  refine zMet (by decide) (Nat.le_of_ble_eq_true rfl) ?_
  show zX kX9_dry 7 0 [some (.ref 36), some (.int (zii n)), none] [] _ _
  refine Y_iload_1 i_X9_dry_0 ?_
  refine Y_callS (k' := kX9_whyNotFar) i_X9_dry_1 l_X9_191 m_X9_whyNotFar (c_X9_whyNotFar (n := n) ⟨by omega, by omega⟩) rfl rfl rfl rfl ?_
  refine Y_istore_2 i_X9_dry_4 rfl rfl ?_
  refine Y_iload_2 i_X9_dry_5 ?_
  refine X_if_eq i_X9_dry_6 (tgt := 15) rfl ⟨by omega, by omega⟩ (fun h6 => ?_) (fun h6 => ?_)
  · obtain ⟨t, rfl⟩ : ∃ t : Nat, n = t := ⟨n.toNat, by omega⟩
    refine Y_aload_0 i_X9_dry_15 ?_
    refine X_getR i_X9_dry_16 f_X9_46 rfl ?_
    refine Y_iload_1 i_X9_dry_19 ?_
    refine Y_callVe (k' := kX7_goneWithoutTea) i_X9_dry_20 l_X9_276 m_X7_goneWithoutTea (zctm 1 (c_X7_goneWithoutTea (M := M) (A := M 0) (B := M 1) (t := t) rfl hA (by omega))) rfl rfl rfl rfl rfl ?_
    intro C9
    refine X_iret i_X9_dry_23 rfl ?_
    exact zan0 (by unfold w_dry; exact h6) (rfl) (zex1)
  · refine Y_aload_0 i_X9_dry_9 ?_
    refine Y_iload_2 i_X9_dry_10 ?_
    refine Y_callV (k' := kX9_refuse) i_X9_dry_11 l_X9_72 m_X9_refuse (c_X9_refuse (by omega) (by omega)) rfl rfl rfl rfl rfl ?_
    refine X_iret i_X9_dry_14 rfl ?_
    exact zan1 (by unfold w_dry; rfl) (by omega)
def w_company (M : zMem) (x : Int) (y : Int) (n : Int) : Int := if ¬ ((0 ≤ x ∧ x < M 0 6 0) ∧ (0 ≤ y ∧ y < M 0 6 0) ∧ x ≠ y) then -1 else sFa n
def a_company (M : zMem) (x : Int) (y : Int) (n : Int) : Int := sSum (s_X7_bothDrinking (M 0) x y) n.toNat
set_option maxRecDepth 100000 in
theorem c_X9_company {M : zMem} (hI : zIv M) {x : Int} (h_x : zR x) {y : Int} (h_y : zR y) {n : Int} (h_n : zR n) : zCt kX9_company 5 [.ref 36, .int (zii x), .int (zii y), .int (zii n)] M (zAn (w_company M x y n) (.int (zii (w_company M x y n))) (.int (zii (a_company M x y n))) M M) := by
  obtain ⟨hA, hL, hT, hD, hPi, hR1, hR2⟩ := hI
  have h6 := hA.1
  unfold zH at h6
  have b_x := h_x.1
  have c_x := h_x.2
  have b_y := h_y.1
  have c_y := h_y.2
  have b_n := h_n.1
  have c_n := h_n.2
  have hfa := sFa_in n
  refine zMet (by decide) (Nat.le_of_ble_eq_true rfl) ?_
  show zX kX9_company 5 0 [some (.ref 36), some (.int (zii x)), some (.int (zii y)), some (.int (zii n)), none] [] _ _
  refine Y_aload_0 i_X9_company_0 ?_
  refine X_getR i_X9_company_1 f_X9_10 rfl ?_
  refine Y_iload_1 i_X9_company_4 ?_
  refine Y_iload_2 i_X9_company_5 ?_
  refine Y_callV (k' := kX0_areTwo) i_X9_company_6 l_X9_208 m_X0_areTwo (c_X0_areTwo (i := 0) (M := M) (A := M 0) (x := x) (y := y) (by omega) rfl hA.1 ⟨by omega, by omega⟩ ⟨by omega, by omega⟩) rfl rfl rfl rfl rfl ?_
  refine Y_ifq_ne i_X9_company_9 (tgt := 18) rfl  (fun h9 => ?_) (fun h9 => ?_)
  · refine Y_iload_3 i_X9_company_18 ?_
    refine Y_callS (k' := kX9_whyNotFar) i_X9_company_19 l_X9_191 m_X9_whyNotFar (c_X9_whyNotFar (n := n) ⟨by omega, by omega⟩) rfl rfl rfl rfl ?_
    refine Y_istore_4 i_X9_company_22 rfl rfl ?_
    refine Y_iload_4 i_X9_company_24 ?_
    refine X_if_eq i_X9_company_26 (tgt := 36) rfl ⟨by omega, by omega⟩ (fun h26 => ?_) (fun h26 => ?_)
    · obtain ⟨t, rfl⟩ : ∃ t : Nat, n = t := ⟨n.toNat, by omega⟩
      refine Y_aload_0 i_X9_company_36 ?_
      refine X_getR i_X9_company_37 f_X9_46 rfl ?_
      refine Y_iload_1 i_X9_company_40 ?_
      refine Y_iload_2 i_X9_company_41 ?_
      refine Y_iload_3 i_X9_company_42 ?_
      refine Y_callVe (k' := kX7_bothDrinking) i_X9_company_43 l_X9_279 m_X7_bothDrinking (zctm 1 (c_X7_bothDrinking (M := M) (A := M 0) (B := M 1) (t := t) (x := x) (y := y) rfl hA (by omega) (by omega) (by omega) (by omega) (by omega))) rfl rfl rfl rfl rfl ?_
      intro C9
      refine X_iret i_X9_company_46 rfl ?_
      exact zan0 (by unfold w_company; rw [if_neg (by omega)]; exact h26) (rfl) (zex1)
    · refine Y_aload_0 i_X9_company_29 ?_
      refine Y_iload_4 i_X9_company_30 ?_
      refine Y_callV (k' := kX9_refuse) i_X9_company_32 l_X9_72 m_X9_refuse (c_X9_refuse (by omega) (by omega)) rfl rfl rfl rfl rfl ?_
      refine X_iret i_X9_company_35 rfl ?_
      exact zan1 (by unfold w_company; rw [if_neg (by omega)]) (by omega)
  · refine Y_aload_0 i_X9_company_12 ?_
    refine X_iconst i_X9_company_13 ?_
    refine Y_callV (k' := kX9_refuse) i_X9_company_14 l_X9_72 m_X9_refuse (c_X9_refuse (by omega) (by omega)) rfl rfl rfl rfl rfl ?_
    refine X_iret i_X9_company_17 rfl ?_
    exact zan1 (by unfold w_company; rw [if_pos (by omega)]) (by omega)
def w_mean (M : zMem) (w : Int) : Int := if w < 0 ∨ 2 ≤ w then -2 else 0
def a_mean (M : zMem) (w : Int) : Int := sPart (sMu (M 0) (sG (M 0))) (if 1 ≤ sMd (M 0) (sG (M 0)) then sMd (M 0) (sG (M 0)) else 1) w
set_option maxRecDepth 100000 in
theorem c_X9_mean {M : zMem} (hI : zIv M) {w : Int} (h_w : zR w) : zCt kX9_mean 7 [.ref 36, .int (zii w)] M (zAn (w_mean M w) (.long (zll (4000000000000000000 - (w_mean M w)))) (.long (zll (a_mean M w))) M M) := by
  obtain ⟨hA, hL, hT, hD, hPi, hR1, hR2⟩ := hI
  have h6 := hA.1
  unfold zH at h6
  have b_w := h_w.1
  have c_w := h_w.2
  refine zMet (by decide) (Nat.le_of_ble_eq_true rfl) ?_
  show zX kX9_mean 7 0 [some (.ref 36), some (.int (zii w))] [] _ _
  refine Y_iload_1 i_X9_mean_0 ?_
  refine X_iconst i_X9_mean_1 ?_
  refine Y_callS (k' := kX9_isOther) i_X9_mean_2 l_X9_103 m_X9_isOther (c_X9_isOther ⟨by omega, by omega⟩ (zR_lit rfl)) rfl rfl rfl rfl ?_
  refine Y_ifq_eq i_X9_mean_5 (tgt := 15) rfl  (fun h5 => ?_) (fun h5 => ?_)
  · refine Y_aload_0 i_X9_mean_15 ?_
    refine X_getR i_X9_mean_16 f_X9_46 rfl ?_
    refine Y_iload_1 i_X9_mean_19 ?_
    refine Y_callVe (k' := kX7_meanOfLeaving) i_X9_mean_20 l_X9_282 m_X7_meanOfLeaving (zctm 1 (c_X7_meanOfLeaving (M := M) (A := M 0) (B := M 1) (w := w) rfl hA ⟨by omega, by omega⟩)) rfl rfl rfl rfl rfl ?_
    intro C9
    refine X_lret i_X9_mean_23 rfl ?_
    exact zan0 (by unfold w_mean; rw [if_neg (by omega)]) (rfl) (zex1)
  · refine Y_aload_0 i_X9_mean_8 ?_
    refine X_bipush i_X9_mean_9 (by decide +kernel) ?_
    refine Y_callV (k' := kX9_refuseLong) i_X9_mean_11 l_X9_238 m_X9_refuseLong (c_X9_refuseLong (by omega) (by omega)) rfl rfl rfl rfl rfl ?_
    refine X_lret i_X9_mean_14 rfl ?_
    exact zan3 (by unfold w_mean; rw [if_pos (by omega)]) (by omega)
def w_hostess (M : zMem) (n : Int) : Int := sFa n
def a_hostess (M : zMem) (n : Int) : Int := sHb (sW 181 (sHk (M 0) n.toNat) (-9) 20)
set_option maxRecDepth 100000 in
theorem c_X9_hostess {M : zMem} (hI : zIv M) {n : Int} (h_n : zR n) : zCt kX9_hostess 6 [.ref 36, .int (zii n)] M (zAn (w_hostess M n) (.int (zii (w_hostess M n))) (.int (zii (a_hostess M n))) M M) := by
  obtain ⟨hA, hL, hT, hD, hPi, hR1, hR2⟩ := hI
  have h6 := hA.1
  unfold zH at h6
  have b_n := h_n.1
  have c_n := h_n.2
  have hfa := sFa_in n
  refine zMet (by decide) (Nat.le_of_ble_eq_true rfl) ?_
  show zX kX9_hostess 6 0 [some (.ref 36), some (.int (zii n)), none] [] _ _
  refine Y_iload_1 i_X9_hostess_0 ?_
  refine Y_callS (k' := kX9_whyNotFar) i_X9_hostess_1 l_X9_191 m_X9_whyNotFar (c_X9_whyNotFar (n := n) ⟨by omega, by omega⟩) rfl rfl rfl rfl ?_
  refine Y_istore_2 i_X9_hostess_4 rfl rfl ?_
  refine Y_iload_2 i_X9_hostess_5 ?_
  refine X_if_eq i_X9_hostess_6 (tgt := 15) rfl ⟨by omega, by omega⟩ (fun h6 => ?_) (fun h6 => ?_)
  · obtain ⟨t, rfl⟩ : ∃ t : Nat, n = t := ⟨n.toNat, by omega⟩
    refine Y_aload_0 i_X9_hostess_15 ?_
    refine X_getR i_X9_hostess_16 f_X9_53 rfl ?_
    refine Y_iload_1 i_X9_hostess_19 ?_
    refine Y_callVe (k' := kX2_leastThirst) i_X9_hostess_20 l_X9_285 m_X2_leastThirst (zctm 1 (c_X2_leastThirst (M := M) (A := M 0) (B := M 1) (t := t) rfl hA (by omega))) rfl rfl rfl rfl rfl ?_
    intro C9
    refine X_iret i_X9_hostess_23 rfl ?_
    exact zan0 (by unfold w_hostess; exact h6) (rfl) (zex1)
  · refine Y_aload_0 i_X9_hostess_9 ?_
    refine Y_iload_2 i_X9_hostess_10 ?_
    refine Y_callV (k' := kX9_refuse) i_X9_hostess_11 l_X9_72 m_X9_refuse (c_X9_refuse (by omega) (by omega)) rfl rfl rfl rfl rfl ?_
    refine X_iret i_X9_hostess_14 rfl ?_
    exact zan1 (by unfold w_hostess; rfl) (by omega)
def w_lots (M : zMem) (n : Int) (z : Int) (w : Int) : Int := if n < 1 then -4 else if 20 < n then -6 else if w < 0 ∨ 2 ≤ w then -2 else 0
def a_lots (M : zMem) (n : Int) (z : Int) (w : Int) : Int := if w = 0 then sSum (fun i => sMany (sDg (M 0) z i) 3) n.toNat else sSum (fun i => sDg (M 0) z i 6 4 - M 0 6 4) n.toNat
set_option maxRecDepth 100000 in
theorem c_X9_lots {M : zMem} (hI : zIv M) {n : Int} (h_n : zR n) {z : Int} (h_z : zR z) {w : Int} (h_w : zR w) : zCt kX9_lots 6 [.ref 36, .int (zii n), .int (zii z), .int (zii w)] M (zAn (w_lots M n z w) (.int (zii (w_lots M n z w))) (.int (zii (a_lots M n z w))) M M) := by
  obtain ⟨hA, hL, hT, hD, hPi, hR1, hR2⟩ := hI
  have h6 := hA.1
  unfold zH at h6
  have b_n := h_n.1
  have c_n := h_n.2
  have b_z := h_z.1
  have c_z := h_z.2
  have b_w := h_w.1
  have c_w := h_w.2
  refine zMet (by decide) (Nat.le_of_ble_eq_true rfl) ?_
  show zX kX9_lots 6 0 [some (.ref 36), some (.int (zii n)), some (.int (zii z)), some (.int (zii w))] [] _ _
  refine Y_iload_1 i_X9_lots_0 ?_
  refine X_iconst i_X9_lots_1 ?_
  refine X_icmp_ge i_X9_lots_2 (tgt := 12) rfl ⟨by omega, by omega⟩ ⟨by omega, by omega⟩ (fun h2 => ?_) (fun h2 => ?_)
  · refine Y_iload_1 i_X9_lots_12 ?_
    refine X_bipush i_X9_lots_13 (by decide +kernel) ?_
    refine X_icmp_le i_X9_lots_15 (tgt := 25) rfl ⟨by omega, by omega⟩ ⟨by omega, by omega⟩ (fun h15 => ?_) (fun h15 => ?_)
    · refine Y_iload_3 i_X9_lots_25 ?_
      refine X_iconst i_X9_lots_26 ?_
      refine Y_callS (k' := kX9_isOther) i_X9_lots_27 l_X9_103 m_X9_isOther (c_X9_isOther ⟨by omega, by omega⟩ (zR_lit rfl)) rfl rfl rfl rfl ?_
      refine Y_ifq_eq i_X9_lots_30 (tgt := 40) rfl  (fun h30 => ?_) (fun h30 => ?_)
      · obtain ⟨t, rfl⟩ : ∃ t : Nat, n = t := ⟨n.toNat, by omega⟩
        refine Y_aload_0 i_X9_lots_40 ?_
        refine X_getR i_X9_lots_41 f_X9_60 rfl ?_
        refine Y_iload_1 i_X9_lots_44 ?_
        refine Y_iload_2 i_X9_lots_45 ?_
        refine Y_iload_3 i_X9_lots_46 ?_
        refine Y_callVe (k' := kX4_drawn) i_X9_lots_47 l_X9_293 m_X4_drawn (zctm 1 (c_X4_drawn (M := M) (A := M 0) (B := M 1) (n := t) (z := z) (w := w) rfl hA (by omega) ⟨by omega, by omega⟩)) rfl rfl rfl rfl rfl ?_
        intro C9
        refine X_iret i_X9_lots_50 rfl ?_
        exact zan0 (by unfold w_lots; rw [if_neg (by omega), if_neg (by omega), if_neg (by omega)]) (rfl) (zex1)
      · refine Y_aload_0 i_X9_lots_33 ?_
        refine X_bipush i_X9_lots_34 (by decide +kernel) ?_
        refine Y_callV (k' := kX9_refuse) i_X9_lots_36 l_X9_72 m_X9_refuse (c_X9_refuse (by omega) (by omega)) rfl rfl rfl rfl rfl ?_
        refine X_iret i_X9_lots_39 rfl ?_
        exact zan1 (by unfold w_lots; rw [if_neg (by omega), if_neg (by omega), if_pos (by omega)]) (by omega)
    · refine Y_aload_0 i_X9_lots_18 ?_
      refine X_bipush i_X9_lots_19 (by decide +kernel) ?_
      refine Y_callV (k' := kX9_refuse) i_X9_lots_21 l_X9_72 m_X9_refuse (c_X9_refuse (by omega) (by omega)) rfl rfl rfl rfl rfl ?_
      refine X_iret i_X9_lots_24 rfl ?_
      exact zan1 (by unfold w_lots; rw [if_neg (by omega), if_pos (by omega)]) (by omega)
  · refine Y_aload_0 i_X9_lots_5 ?_
    refine X_bipush i_X9_lots_6 (by decide +kernel) ?_
    refine Y_callV (k' := kX9_refuse) i_X9_lots_8 l_X9_72 m_X9_refuse (c_X9_refuse (by omega) (by omega)) rfl rfl rfl rfl rfl ?_
    refine X_iret i_X9_lots_11 rfl ?_
    exact zan1 (by unfold w_lots; rw [if_pos (by omega)]) (by omega)
