def zCh (D : zAft) : Prop := (0 ≤ D 5 0 ∧ D 5 0 < 8) ∧ (0 ≤ D 5 1 ∧ D 5 1 ≤ 8) ∧ ∀ i : Int, 0 ≤ i → i < 8 → -1 ≤ D 0 i ∧ D 0 i < 6
def sK1 (D A : zAft) (g : Int) : zAft := if 0 ≤ g ∧ g < A 6 0 then zwr (zwr (zwr D 0 (D 5 0) g) 1 (D 5 0) (A 3 g)) 2 (D 5 0) (A 4 g) else zwr D 0 (D 5 0) g
def sKp (D A : zAft) (g : Int) : zAft := zwr (zwr (zwr (zwr (sK1 D A g) 3 (D 5 0) (A 6 1)) 4 (D 5 0) (A 6 2)) 5 0 ((D 5 0 + 1) % 8)) 5 1 (if D 5 1 + 1 ≤ 8 then D 5 1 + 1 else 8)
def sBn (D : zAft) : Int := (D 5 0 + 7) % 8
def sBD (D : zAft) : zAft := zwr (zwr D 5 0 (sBn D)) 5 1 (D 5 1 - 1)
def sB1 (D A : zAft) : zAft := if 0 ≤ D 0 (sBn D) ∧ D 0 (sBn D) < A 6 0 then zwr (zwr A 3 (D 0 (sBn D)) (D 1 (sBn D))) 4 (D 0 (sBn D)) (D 2 (sBn D)) else A
def sBA (D A : zAft) : zAft := zwr (zwr (sB1 D A) 6 1 (D 3 (sBn D))) 6 2 (D 4 (sBn D))
theorem zmod8 {a : Int} (h0 : 0 ≤ a) (h1 : a < 100) : zrem a 8 = a % 8 := by
  have h := zrem_n (a := a.toNat) (b := 8) (by omega) (by omega) (by omega)
  rw [show ((a.toNat : Nat) : Int) = a by omega] at h
  rw [show (8 : Int) = ((8 : Nat) : Int) from rfl, h]
  omega
set_option maxRecDepth 100000 in
theorem c_X1_keep {M : zMem} {A D : zAft} (e : M 0 = A) {b : Int} (hA : zOk b A) (hD : zCh D) {g : Int} (g0 : -1 ≤ g) (g1 : g < 6) : zCt kX1_keep 1 [.ref 25, .ref 0, .int (zii g)] ((zs M 6 D)) (zVoid (zs M 6 (sKp D A g))) := by
  subst e
  have h6 := hA.1
  unfold zH at h6
  have hD1 := hD.1
  have hD2 := hD.2.1
  have hm := zmod8 (a := D 5 0 + 1) (by omega) (by omega)
  refine zMet (by decide) (Nat.le_of_ble_eq_true rfl) ?_
  show zX kX1_keep 1 0 [some (.ref 25), some (.ref 0), some (.int (zii g))] [] _ _
  refine Y_aload_0 i_X1_keep_0 ?_
  refine X_getR i_X1_keep_1 f_X1_9 rfl ?_
  refine Y_aload_0 i_X1_keep_4 ?_
  refine Y_getI i_X1_keep_5 f_X1_27 rfl (zg0 _ _ _ _ _) ?_
  refine Y_iload_2 i_X1_keep_8 ?_
  refine Y_iast i_X1_keep_9 rfl ⟨by omega, by omega⟩ rfl (zp0 _ _ _ _ _ _) ?_
  refine Y_aload_1 i_X1_keep_10 ?_
  refine Y_iload_2 i_X1_keep_11 ?_
  refine Y_callV (k' := kX0_has) i_X1_keep_12 l_X1_34 m_X0_has (c_X0_has (i := 0) (M := zs M 6 (zwr D 0 (D 5 0) g)) (A := M 0) (by omega) rfl hA.1 ⟨by omega, by omega⟩) rfl rfl rfl rfl rfl ?_
  refine Y_ifq_eq i_X1_keep_15 (tgt := 48) rfl  (fun h15 => ?_) (fun h15 => ?_)
  · refine Y_aload_0 i_X1_keep_48 ?_
    refine X_getR i_X1_keep_49 f_X1_21 rfl ?_
    refine Y_aload_0 i_X1_keep_52 ?_
    refine Y_getI i_X1_keep_53 f_X1_27 rfl (zga (zr1 rfl rfl)) ?_
    refine Y_aload_1 i_X1_keep_56 ?_
    refine Y_getI i_X1_keep_57 f_X1_42 rfl (zg1 rfl rfl) ?_
    refine Y_iast i_X1_keep_60 rfl ⟨by omega, by omega⟩ rfl (zp0 _ _ _ _ _ _) ?_
    refine Y_aload_0 i_X1_keep_61 ?_
    refine X_getR i_X1_keep_62 f_X1_24 rfl ?_
    refine Y_aload_0 i_X1_keep_65 ?_
    refine Y_getI i_X1_keep_66 f_X1_27 rfl (zga (zr1 rfl (zr1 rfl rfl))) ?_
    refine Y_aload_1 i_X1_keep_69 ?_
    refine Y_getI i_X1_keep_70 f_X1_44 rfl (zg1 rfl rfl) ?_
    refine Y_iast i_X1_keep_73 rfl ⟨by omega, by omega⟩ rfl (zp0 _ _ _ _ _ _) ?_
    refine Y_aload_0 i_X1_keep_74 ?_
    refine Y_aload_0 i_X1_keep_75 ?_
    refine Y_getI i_X1_keep_76 f_X1_27 rfl (zga (zr1 rfl (zr1 rfl (zr1 rfl rfl)))) ?_
    refine X_iconst i_X1_keep_79 ?_
    refine X_iadd i_X1_keep_80 ?_
    refine X_bipush i_X1_keep_81 (by decide +kernel) ?_
    refine X_irem i_X1_keep_83 ⟨by omega, by omega⟩ (by omega) ?_
    rw [hm]
    refine Y_putI i_X1_keep_84 f_X1_27 rfl t_1_5 (zp0 _ _ _ _ _ _) ?_
    refine Y_aload_0 i_X1_keep_87 ?_
    refine Y_aload_0 i_X1_keep_88 ?_
    refine Y_getI i_X1_keep_89 f_X1_31 rfl (zga (zr2 (by decide) (zr1 rfl (zr1 rfl (zr1 rfl rfl))))) ?_
    refine X_iconst i_X1_keep_92 ?_
    refine X_iadd i_X1_keep_93 ?_
    refine X_bipush i_X1_keep_94 (by decide +kernel) ?_
    refine X_mmin i_X1_keep_96 lm_X1_46 m_J9_min_7cf53 ⟨by omega, by omega⟩ ⟨by omega, by omega⟩ rfl rfl ?_
    refine Y_putI i_X1_keep_99 f_X1_31 rfl t_1_6 (zp0 _ _ _ _ _ _) ?_
    refine X_vret i_X1_keep_102 rfl ?_
    exact ⟨rfl, by unfold sKp sK1; rw [if_neg h15]⟩
  · refine Y_aload_0 i_X1_keep_18 ?_
    refine X_getR i_X1_keep_19 f_X1_15 rfl ?_
    refine Y_aload_0 i_X1_keep_22 ?_
    refine Y_getI i_X1_keep_23 f_X1_27 rfl (zga (zr1 rfl rfl)) ?_
    refine Y_aload_1 i_X1_keep_26 ?_
    refine X_getR i_X1_keep_27 f_X1_40 rfl ?_
    refine Y_iload_2 i_X1_keep_30 ?_
    refine Y_iald i_X1_keep_31 rfl ⟨by omega, by omega⟩ rfl (zg1 rfl rfl) ?_
    refine Y_iast i_X1_keep_32 rfl ⟨by omega, by omega⟩ rfl (zp0 _ _ _ _ _ _) ?_
    refine Y_aload_0 i_X1_keep_33 ?_
    refine X_getR i_X1_keep_34 f_X1_18 rfl ?_
    refine Y_aload_0 i_X1_keep_37 ?_
    refine Y_getI i_X1_keep_38 f_X1_27 rfl (zga (zr1 rfl (zr1 rfl rfl))) ?_
    refine Y_aload_1 i_X1_keep_41 ?_
    refine X_getR i_X1_keep_42 f_X1_41 rfl ?_
    refine Y_iload_2 i_X1_keep_45 ?_
    refine Y_iald i_X1_keep_46 rfl ⟨by omega, by omega⟩ rfl (zg1 rfl rfl) ?_
    refine Y_iast i_X1_keep_47 rfl ⟨by omega, by omega⟩ rfl (zp0 _ _ _ _ _ _) ?_
    refine Y_aload_0 i_X1_keep_48 ?_
    refine X_getR i_X1_keep_49 f_X1_21 rfl ?_
    refine Y_aload_0 i_X1_keep_52 ?_
    refine Y_getI i_X1_keep_53 f_X1_27 rfl (zga (zr1 rfl (zr1 rfl (zr1 rfl rfl)))) ?_
    refine Y_aload_1 i_X1_keep_56 ?_
    refine Y_getI i_X1_keep_57 f_X1_42 rfl (zg1 rfl rfl) ?_
    refine Y_iast i_X1_keep_60 rfl ⟨by omega, by omega⟩ rfl (zp0 _ _ _ _ _ _) ?_
    refine Y_aload_0 i_X1_keep_61 ?_
    refine X_getR i_X1_keep_62 f_X1_24 rfl ?_
    refine Y_aload_0 i_X1_keep_65 ?_
    refine Y_getI i_X1_keep_66 f_X1_27 rfl (zga (zr1 rfl (zr1 rfl (zr1 rfl (zr1 rfl rfl))))) ?_
    refine Y_aload_1 i_X1_keep_69 ?_
    refine Y_getI i_X1_keep_70 f_X1_44 rfl (zg1 rfl rfl) ?_
    refine Y_iast i_X1_keep_73 rfl ⟨by omega, by omega⟩ rfl (zp0 _ _ _ _ _ _) ?_
    refine Y_aload_0 i_X1_keep_74 ?_
    refine Y_aload_0 i_X1_keep_75 ?_
    refine Y_getI i_X1_keep_76 f_X1_27 rfl (zga (zr1 rfl (zr1 rfl (zr1 rfl (zr1 rfl (zr1 rfl rfl)))))) ?_
    refine X_iconst i_X1_keep_79 ?_
    refine X_iadd i_X1_keep_80 ?_
    refine X_bipush i_X1_keep_81 (by decide +kernel) ?_
    refine X_irem i_X1_keep_83 ⟨by omega, by omega⟩ (by omega) ?_
    rw [hm]
    refine Y_putI i_X1_keep_84 f_X1_27 rfl t_1_5 (zp0 _ _ _ _ _ _) ?_
    refine Y_aload_0 i_X1_keep_87 ?_
    refine Y_aload_0 i_X1_keep_88 ?_
    refine Y_getI i_X1_keep_89 f_X1_31 rfl (zga (zr2 (by decide) (zr1 rfl (zr1 rfl (zr1 rfl (zr1 rfl (zr1 rfl rfl))))))) ?_
    refine X_iconst i_X1_keep_92 ?_
    refine X_iadd i_X1_keep_93 ?_
    refine X_bipush i_X1_keep_94 (by decide +kernel) ?_
    refine X_mmin i_X1_keep_96 lm_X1_46 m_J9_min_7cf53 ⟨by omega, by omega⟩ ⟨by omega, by omega⟩ rfl rfl ?_
    refine Y_putI i_X1_keep_99 f_X1_31 rfl t_1_6 (zp0 _ _ _ _ _ _) ?_
    refine X_vret i_X1_keep_102 rfl ?_
    exact ⟨rfl, by unfold sKp sK1; rw [if_pos h15]⟩
set_option maxRecDepth 100000 in
theorem c_X1_takeBack {M : zMem} {A D : zAft} {b : Int} (hA : zOk b A) (hD : zCh D) : zCt kX1_takeBack 1 [.ref 25, .ref 0] ((zs (zs M 6 D) 0 A)) (zRet (.int (zii (D 5 1 - 1))) (zs (zs M 6 (sBD D)) 0 (sBA D A))) := by
  have h6 := hA.1
  unfold zH at h6
  have hD1 := hD.1
  have hD2 := hD.2.1
  have hm : zrem (D 5 0 + 8 - 1) 8 = sBn D := by rw [show D 5 0 + 8 - 1 = D 5 0 + 7 by omega]; exact zmod8 (a := D 5 0 + 7) (by omega) (by omega)
  have hn : 0 ≤ sBn D ∧ sBn D < 8 := by unfold sBn; omega
  have hg := hD.2.2 (sBn D) hn.1 hn.2
  refine zMet (by decide) (Nat.le_of_ble_eq_true rfl) ?_
  show zX kX1_takeBack 1 0 [some (.ref 25), some (.ref 0), none] [] _ _
  refine Y_aload_0 i_X1_takeBack_0 ?_
  refine Y_aload_0 i_X1_takeBack_1 ?_
  refine Y_getI i_X1_takeBack_2 f_X1_27 rfl (zg1 rfl (zg0 _ _ _ _ _)) ?_
  refine X_bipush i_X1_takeBack_5 (by decide +kernel) ?_
  refine X_iadd i_X1_takeBack_7 ?_
  refine X_iconst i_X1_takeBack_8 ?_
  refine X_isub i_X1_takeBack_9 ?_
  refine X_bipush i_X1_takeBack_10 (by decide +kernel) ?_
  refine X_irem i_X1_takeBack_12 ⟨by omega, by omega⟩ (by omega) ?_
  rw [hm]
  refine Y_putI i_X1_takeBack_13 f_X1_27 rfl t_1_5 (zp1 rfl (zp0 _ _ _ _ _ _)) ?_
  refine Y_aload_0 i_X1_takeBack_16 ?_
  refine X_dup i_X1_takeBack_17 rfl ?_
  refine Y_getI i_X1_takeBack_18 f_X1_31 rfl (zg1 rfl (zga (zr2 (by decide) rfl))) ?_
  refine X_iconst i_X1_takeBack_21 ?_
  refine X_isub i_X1_takeBack_22 ?_
  refine Y_putI i_X1_takeBack_23 f_X1_31 rfl t_1_6 (zp1 rfl (zp0 _ _ _ _ _ _)) ?_
  refine Y_aload_0 i_X1_takeBack_26 ?_
  refine X_getR i_X1_takeBack_27 f_X1_9 rfl ?_
  refine Y_aload_0 i_X1_takeBack_30 ?_
  refine Y_getI i_X1_takeBack_31 f_X1_27 rfl (zg1 rfl (zga (zr2 (by decide) zr0))) ?_
  refine Y_iald i_X1_takeBack_34 rfl ⟨by omega, by omega⟩ rfl (zg1 rfl (zga (zr1 rfl (zr1 rfl rfl)))) ?_
  refine Y_istore_2 i_X1_takeBack_35 rfl rfl ?_
  refine Y_aload_1 i_X1_takeBack_36 ?_
  refine Y_iload_2 i_X1_takeBack_37 ?_
  refine Y_callV (k' := kX0_has) i_X1_takeBack_38 l_X1_34 m_X0_has (c_X0_has (i := 0) (M := zs (zs M 6 (sBD D)) 0 A) (A := A) (by omega) rfl hA.1 ⟨by omega, by omega⟩) rfl rfl rfl rfl rfl ?_
  refine Y_ifq_eq i_X1_takeBack_41 (tgt := 74) rfl  (fun h41 => ?_) (fun h41 => ?_)
  · refine Y_aload_1 i_X1_takeBack_74 ?_
    refine Y_aload_0 i_X1_takeBack_75 ?_
    refine X_getR i_X1_takeBack_76 f_X1_21 rfl ?_
    refine Y_aload_0 i_X1_takeBack_79 ?_
    refine Y_getI i_X1_takeBack_80 f_X1_27 rfl (zg1 rfl (zga (zr2 (by decide) zr0))) ?_
    refine Y_iald i_X1_takeBack_83 rfl ⟨by omega, by omega⟩ rfl (zg1 rfl (zga (zr1 rfl (zr1 rfl rfl)))) ?_
    refine Y_putI i_X1_takeBack_84 f_X1_42 rfl t_0_7 (zp0 _ _ _ _ _ _) ?_
    refine Y_aload_1 i_X1_takeBack_87 ?_
    refine Y_aload_0 i_X1_takeBack_88 ?_
    refine X_getR i_X1_takeBack_89 f_X1_24 rfl ?_
    refine Y_aload_0 i_X1_takeBack_92 ?_
    refine Y_getI i_X1_takeBack_93 f_X1_27 rfl (zg1 rfl (zga (zr2 (by decide) zr0))) ?_
    refine Y_iald i_X1_takeBack_96 rfl ⟨by omega, by omega⟩ rfl (zg1 rfl (zga (zr1 rfl (zr1 rfl rfl)))) ?_
    refine Y_putI i_X1_takeBack_97 f_X1_44 rfl t_0_8 (zp0 _ _ _ _ _ _) ?_
    refine Y_aload_0 i_X1_takeBack_100 ?_
    refine Y_getI i_X1_takeBack_101 f_X1_31 rfl (zg1 rfl (zga zr0)) ?_
    refine X_iret i_X1_takeBack_104 rfl ?_
    exact ⟨rfl, by unfold sBA sB1; rw [if_neg h41]⟩
  · refine Y_aload_1 i_X1_takeBack_44 ?_
    refine X_getR i_X1_takeBack_45 f_X1_40 rfl ?_
    refine Y_iload_2 i_X1_takeBack_48 ?_
    refine Y_aload_0 i_X1_takeBack_49 ?_
    refine X_getR i_X1_takeBack_50 f_X1_15 rfl ?_
    refine Y_aload_0 i_X1_takeBack_53 ?_
    refine Y_getI i_X1_takeBack_54 f_X1_27 rfl (zg1 rfl (zga (zr2 (by decide) zr0))) ?_
    refine Y_iald i_X1_takeBack_57 rfl ⟨by omega, by omega⟩ rfl (zg1 rfl (zga (zr1 rfl (zr1 rfl rfl)))) ?_
    refine Y_iast i_X1_takeBack_58 rfl ⟨by omega, by omega⟩ rfl (zp0 _ _ _ _ _ _) ?_
    refine Y_aload_1 i_X1_takeBack_59 ?_
    refine X_getR i_X1_takeBack_60 f_X1_41 rfl ?_
    refine Y_iload_2 i_X1_takeBack_63 ?_
    refine Y_aload_0 i_X1_takeBack_64 ?_
    refine X_getR i_X1_takeBack_65 f_X1_18 rfl ?_
    refine Y_aload_0 i_X1_takeBack_68 ?_
    refine Y_getI i_X1_takeBack_69 f_X1_27 rfl (zg1 rfl (zga (zr2 (by decide) zr0))) ?_
    refine Y_iald i_X1_takeBack_72 rfl ⟨by omega, by omega⟩ rfl (zg1 rfl (zga (zr1 rfl (zr1 rfl rfl)))) ?_
    refine Y_iast i_X1_takeBack_73 rfl ⟨by omega, by omega⟩ rfl (zp0 _ _ _ _ _ _) ?_
    refine Y_aload_1 i_X1_takeBack_74 ?_
    refine Y_aload_0 i_X1_takeBack_75 ?_
    refine X_getR i_X1_takeBack_76 f_X1_21 rfl ?_
    refine Y_aload_0 i_X1_takeBack_79 ?_
    refine Y_getI i_X1_takeBack_80 f_X1_27 rfl (zg1 rfl (zga (zr2 (by decide) zr0))) ?_
    refine Y_iald i_X1_takeBack_83 rfl ⟨by omega, by omega⟩ rfl (zg1 rfl (zga (zr1 rfl (zr1 rfl rfl)))) ?_
    refine Y_putI i_X1_takeBack_84 f_X1_42 rfl t_0_7 (zp0 _ _ _ _ _ _) ?_
    refine Y_aload_1 i_X1_takeBack_87 ?_
    refine Y_aload_0 i_X1_takeBack_88 ?_
    refine X_getR i_X1_takeBack_89 f_X1_24 rfl ?_
    refine Y_aload_0 i_X1_takeBack_92 ?_
    refine Y_getI i_X1_takeBack_93 f_X1_27 rfl (zg1 rfl (zga (zr2 (by decide) zr0))) ?_
    refine Y_iald i_X1_takeBack_96 rfl ⟨by omega, by omega⟩ rfl (zg1 rfl (zga (zr1 rfl (zr1 rfl rfl)))) ?_
    refine Y_putI i_X1_takeBack_97 f_X1_44 rfl t_0_8 (zp0 _ _ _ _ _ _) ?_
    refine Y_aload_0 i_X1_takeBack_100 ?_
    refine Y_getI i_X1_takeBack_101 f_X1_31 rfl (zg1 rfl (zga zr0)) ?_
    refine X_iret i_X1_takeBack_104 rfl ?_
    exact ⟨rfl, by unfold sBA sB1; rw [if_pos h41]⟩
set_option maxRecDepth 100000 in
theorem c_X1_forget {M : zMem} {D : zAft} : zCt kX1_forget 0 [.ref 25] ((zs M 6 D)) (zVoid (zs M 6 (zwr D 5 1 0))) := by
  refine zMet (by decide) (Nat.le_of_ble_eq_true rfl) ?_
  show zX kX1_forget 0 0 [some (.ref 25)] [] _ _
  refine Y_aload_0 i_X1_forget_0 ?_
  refine X_iconst i_X1_forget_1 ?_
  refine Y_putI i_X1_forget_2 f_X1_31 rfl t_1_6 (zp0 _ _ _ _ _ _) ?_
  refine X_vret i_X1_forget_5 rfl ?_
  exact ⟨rfl, rfl⟩
def zLt (L : zAft) : Prop := (0 ≤ L 1 0 ∧ L 1 0 ≤ 96) ∧ ∀ i : Int, 0 ≤ i → i < 96 → 0 ≤ L 0 i ∧ L 0 i ≤ 255
def sAt (L : zAft) (x : Int) : Int := if 0 ≤ x ∧ x < L 1 0 then L 0 x else -1
theorem sAt_in {L : zAft} (h : zLt L) (x : Int) : -1 ≤ sAt L x ∧ sAt L x ≤ 255 := by
  unfold sAt
  split
  next h1 => have := h.2 x (by omega) (by have := h.1; omega); omega
  next => omega
def sDi (L : zAft) (x : Int) : Int := sAt L x - 48
def sD2 (L : zAft) (x : Int) : Int := 10 * sDi L x + sDi L (x + 1)
theorem sDi_in {L : zAft} (h : zLt L) (x : Int) : -49 ≤ sDi L x ∧ sDi L x ≤ 207 := by have := sAt_in h x; unfold sDi; omega
theorem sD2_in {L : zAft} (h : zLt L) (x : Int) : -600 ≤ sD2 L x ∧ sD2 L x ≤ 2300 := by have := sDi_in h x; have := sDi_in h (x + 1); unfold sD2; omega
def sLn (c : Int) : Nat := if c = 103 then 6 else if c = 109 then 4 else if c = 114 ∨ c = 111 ∨ c = 99 ∨ c = 117 then 3 else 1
theorem sLn_in (c : Int) : 1 ≤ sLn c ∧ sLn c ≤ 6 ∧ sLn c ≠ 2 := by unfold sLn; split <;> (try split) <;> (try split) <;> omega
def sNd (L : zAft) (s : Nat) : Nat → Bool := fun j => !decide (48 ≤ sAt L ((s : Int) + 1 + j) ∧ sAt L ((s : Int) + 1 + j) ≤ 57)
def sWf (L : zAft) (s : Nat) : Int :=
  if sLn (sAt L s) = 1 then s
  else if sFst (sNd L s) (sLn (sAt L s) - 2) < sLn (sAt L s) - 2 then (s : Int) + 1 + (sFst (sNd L s) (sLn (sAt L s) - 2) : Nat)
  else if sAt L ((s : Int) + (sLn (sAt L s) : Nat) - 1) = 59 then -1 else (s : Int) + (sLn (sAt L s) : Nat) - 1
theorem sWf_in (L : zAft) (s : Nat) : -1 ≤ sWf L s ∧ sWf L s ≤ s + 6 := by
  have h := sLn_in (sAt L s)
  unfold sWf
  split
  · omega
  · split
    · omega
    · split <;> omega
def sWp (L : zAft) : Nat → Nat → Int
  | 0, _ => -1
  | n + 1, s => if (s : Int) < L 1 0 then (if 0 ≤ sWf L s then sWf L s else sWp L n (s + sLn (sAt L s))) else -1
theorem sWp_in (L : zAft) (h : L 1 0 ≤ 96) : ∀ n s, -1 ≤ sWp L n s ∧ sWp L n s ≤ 102 := by
  intro n
  induction n with
  | zero => intro s; simp [sWp]
  | succ n ih =>
    intro s
    have h1 := sWf_in L s
    have h2 := ih (s + sLn (sAt L s))
    simp only [sWp]
    split
    · split <;> omega
    · omega
def sWrl (L : zAft) : Int := if L 1 0 = 0 then 0 else sWp L 96 0
def sY_come (A : zAft) (x y z : Int) : Int := if x < 0 ∨ 6 ≤ x then -2 else if y < 0 ∨ z < 0 then -4 else if 9 < y ∨ 30 < z then -6 else if 6 ≤ A 6 0 then -6 else 0
def sY_rise (A : zAft) (x : Int) : Int := if ¬ (0 ≤ x ∧ x < A 6 0) then -1 else if A 3 x = 0 then 0 else -3
def sY_slip (A : zAft) (x : Int) : Int := if ¬ (0 ≤ x ∧ x < A 6 0) then -1 else if A 3 x = 0 ∨ A 3 x = 1 then 0 else -3
def sY_cups (A : zAft) (x : Int) : Int := if x < 1 then -4 else if 5 < x then -6 else if x < sMany A 2 then -3 else 0
def sY_pass (A : zAft) (x : Int) : Int := if x < 1 then -4 else if 60 < x ∨ 999 - x < A 6 3 then -6 else 0
theorem sY_come_in (A : zAft) (x y z : Int) : -6 ≤ sY_come A x y z ∧ sY_come A x y z ≤ 0 := by
  unfold sY_come
  repeat' split
  all_goals omega
theorem sY_rise_in (A : zAft) (x : Int) : -6 ≤ sY_rise A x ∧ sY_rise A x ≤ 0 := by
  unfold sY_rise
  repeat' split
  all_goals omega
theorem sY_slip_in (A : zAft) (x : Int) : -6 ≤ sY_slip A x ∧ sY_slip A x ≤ 0 := by
  unfold sY_slip
  repeat' split
  all_goals omega
theorem sY_cups_in (A : zAft) (x : Int) : -6 ≤ sY_cups A x ∧ sY_cups A x ≤ 0 := by
  unfold sY_cups
  repeat' split
  all_goals omega
theorem sY_pass_in (A : zAft) (x : Int) : -6 ≤ sY_pass A x ∧ sY_pass A x ≤ 0 := by
  unfold sY_pass
  repeat' split
  all_goals omega
/-- whether the statement at a place comes, and what with -/
def sTk (L : zAft) (s : Nat) (A : zAft) : Bool :=
  if sAt L s = 103 then decide (sY_come A (sDi L ((s : Int) + 1)) (sDi L ((s : Int) + 2)) (sD2 L ((s : Int) + 3)) = 0)
  else if sAt L s = 114 then decide (sY_rise A (sDi L ((s : Int) + 1)) = 0)
  else if sAt L s = 111 then decide (sY_slip A (sDi L ((s : Int) + 1)) = 0)
  else if sAt L s = 99 then decide (sY_cups A (sDi L ((s : Int) + 1)) = 0)
  else if sAt L s = 117 then decide (0 ≤ sDi L ((s : Int) + 1) ∧ sDi L ((s : Int) + 1) < 4)
  else decide (sY_pass A (sD2 L ((s : Int) + 1)) = 0)
def sTd (L : zAft) (s : Nat) (A : zAft) : zAft :=
  if sAt L s = 103 then sCome A (sDi L ((s : Int) + 1)) (sDi L ((s : Int) + 2)) (sD2 L ((s : Int) + 3))
  else if sAt L s = 114 then sRise A (sDi L ((s : Int) + 1))
  else if sAt L s = 111 then zwr A 3 (sDi L ((s : Int) + 1)) 3
  else if sAt L s = 99 then zwr A 6 1 (sDi L ((s : Int) + 1))
  else if sAt L s = 117 then zwr A 6 2 (sDi L ((s : Int) + 1))
  else sRun A (sD2 L ((s : Int) + 1)).toNat
theorem zOk_mono {b c : Int} {A : zAft} (h : zOk b A) (hb : A 6 3 ≤ c) : zOk c A := by
  have h6 := h.1
  refine ⟨?_, h.2⟩
  unfold zH at h6 ⊢
  omega
theorem sComeY_ok {b : Int} {A : zAft} (h : zOk b A) {x y z : Int} (hy : sY_come A x y z = 0) : zOk b (sCome A x y z) := by
  have h6 := h.1
  unfold sY_come at hy
  have hc : (0 ≤ x ∧ x ≤ 5) ∧ (0 ≤ y ∧ y ≤ 9) ∧ (0 ≤ z ∧ z ≤ 30) ∧ A 6 0 < 6 := by
    split at hy
    · omega
    · split at hy
      · omega
      · split at hy
        · omega
        · split at hy <;> omega
  unfold zH at h6
  refine ⟨?_, fun g g0 g1 => ?_⟩
  · unfold zH sCome
    simp [zwr]; omega
  · have hg := h.2 g g0 g1
    by_cases e : g = A 6 0
    · subst e
      unfold zG sCome
      simp [zwr]; omega
    · refine zG_eq hg (fun r hr => ?_)
      unfold sCome
      rw [zwr_r (by omega), zwr_i e, zwr_i e, zwr_i e, zwr_i e, zwr_i e, zwr_i e]
theorem sSlip_ok {b : Int} {A : zAft} (h : zOk b A) {x : Int} (hy : sY_slip A x = 0) : zOk b (zwr A 3 x 3) := by
  refine ⟨zH_eq h.1 (zwr_row rfl), fun g g0 g1 => ?_⟩
  have hg := h.2 g g0 g1
  by_cases e : g = x
  · subst e
    unfold zG at hg ⊢
    simp [zwr]; omega
  · exact zG_eq hg (fun r _ => zwr_i e)
theorem sCups_ok {b : Int} {A : zAft} (h : zOk b A) {x : Int} (h1 : 1 ≤ x) (h5 : x ≤ 5) : zOk b (zwr A 6 1 x) := by
  have h6 := h.1
  refine ⟨?_, fun g g0 g1 => zG_eq (h.2 g g0 g1) (fun r hr => zwr_r (by omega))⟩
  unfold zH at h6 ⊢
  simp [zwr]; omega
theorem sRule_ok {b : Int} {A : zAft} (h : zOk b A) {x : Int} (h1 : 0 ≤ x) (h5 : x ≤ 3) : zOk b (zwr A 6 2 x) := by
  have h6 := h.1
  refine ⟨?_, fun g g0 g1 => zG_eq (h.2 g g0 g1) (fun r hr => zwr_r (by omega))⟩
  unfold zH at h6 ⊢
  simp [zwr]; omega
theorem sPass_ok {A : zAft} (h : zOk 999 A) {x : Int} (hy : sY_pass A x = 0) : zOk 999 (sRun A x.toNat) := by
  have hc : 1 ≤ x ∧ A 6 3 ≤ 999 - x := by
    unfold sY_pass at hy
    split at hy
    · omega
    · split at hy <;> omega
  have h1 := sRun_ok (zOk_mono h (Int.le_refl _)) x.toNat
  have h2 := h1.1
  refine zOk_mono h1 ?_
  unfold zH at h2
  omega
theorem sRise0_ok {b : Int} {A : zAft} (h : zOk b A) {x : Int} (hy : sY_rise A x = 0) : zOk b (sRise A x) := by
  have hc : (0 ≤ x ∧ x < A 6 0) ∧ A 3 x = 0 := by
    unfold sY_rise at hy
    split at hy
    · omega
    · split at hy
      · omega
      · omega
  have h6 := h.1
  unfold zH at h6
  exact sRise_ok h (by omega) (by omega) (by omega)
theorem sTd_ok {L A : zAft} {s : Nat} (h : zOk 999 A) (hk : sTk L s A = true) : zOk 999 (sTd L s A) := by
  unfold sTk at hk
  unfold sTd
  split
  next e => rw [if_pos e] at hk; exact sComeY_ok h (of_decide_eq_true hk)
  next e =>
    rw [if_neg e] at hk
    split
    next e1 => rw [if_pos e1] at hk; exact sRise0_ok h (of_decide_eq_true hk)
    next e1 =>
      rw [if_neg e1] at hk
      split
      next e2 => rw [if_pos e2] at hk; exact sSlip_ok h (of_decide_eq_true hk)
      next e2 =>
        rw [if_neg e2] at hk
        split
        next e3 =>
          rw [if_pos e3] at hk
          have hy := of_decide_eq_true hk
          unfold sY_cups at hy
          have hc : 1 ≤ sDi L ((s : Int) + 1) ∧ sDi L ((s : Int) + 1) ≤ 5 := by
            split at hy
            · omega
            · split at hy <;> omega
          exact sCups_ok h hc.1 hc.2
        next e3 =>
          rw [if_neg e3] at hk
          split
          next e4 =>
            rw [if_pos e4] at hk
            have hy := of_decide_eq_true hk
            exact sRule_ok h (by omega) (by omega)
          next e4 => rw [if_neg e4] at hk; exact sPass_ok h (of_decide_eq_true hk)
def sHf (L : zAft) : Nat → Nat → Nat → zAft → Int × zAft
  | 0, _, k, A => (k, A)
  | n + 1, s, k, A => if (s : Int) < L 1 0 then (if sTk L s A = true then sHf L n (s + sLn (sAt L s)) (k + 1) (sTd L s A) else (-2000 - s, A)) else (k, A)
def sHa (L A : zAft) : Int × zAft := if 0 ≤ sWrl L then (-1000 - sWrl L, A) else sHf L 96 0 0 A
set_option maxRecDepth 100000 in
theorem c_X8_lengthOf {M : zMem} {c : Int} (c0 : -1 ≤ c) (c1 : c ≤ 255) : zCt kX8_lengthOf 0 [.int (zii c)] M (zRet (.int (zii (sLn c : Nat))) M) := by
  refine zMet (by decide) (Nat.le_of_ble_eq_true rfl) ?_
  show zX kX8_lengthOf 0 0 [some (.int (zii c))] [] _ _
  refine Y_iload_0 i_X8_lengthOf_0 ?_
  rcases (by omega : c = 99 ∨ c = 100 ∨ c = 101 ∨ c = 102 ∨ c = 103 ∨ c = 104 ∨ c = 105 ∨ c = 106 ∨ c = 107 ∨ c = 108 ∨ c = 109 ∨ c = 110 ∨ c = 111 ∨ c = 112 ∨ c = 113 ∨ c = 114 ∨ c = 115 ∨ c = 116 ∨ c = 117 ∨ (c < 99 ∨ 117 < c)) with hsw | hsw | hsw | hsw | hsw | hsw | hsw | hsw | hsw | hsw | hsw | hsw | hsw | hsw | hsw | hsw | hsw | hsw | hsw | hsw
  · refine X_tabIn i_X8_lengthOf_1 ⟨by omega, by omega⟩ (by omega) (by omega) (off := 96) (by rw [hsw]; rfl) (tgt := 97) rfl ?_
    refine X_iconst i_X8_lengthOf_97 ?_
    refine X_iret i_X8_lengthOf_98 rfl ?_
    exact zri (by rw [hsw]; rfl)
  · refine X_tabIn i_X8_lengthOf_1 ⟨by omega, by omega⟩ (by omega) (by omega) (off := 98) (by rw [hsw]; rfl) (tgt := 99) rfl ?_
    refine X_iconst i_X8_lengthOf_99 ?_
    refine X_iret i_X8_lengthOf_100 rfl ?_
    exact zri (by rw [hsw]; rfl)
  · refine X_tabIn i_X8_lengthOf_1 ⟨by omega, by omega⟩ (by omega) (by omega) (off := 98) (by rw [hsw]; rfl) (tgt := 99) rfl ?_
    refine X_iconst i_X8_lengthOf_99 ?_
    refine X_iret i_X8_lengthOf_100 rfl ?_
    exact zri (by rw [hsw]; rfl)
  · refine X_tabIn i_X8_lengthOf_1 ⟨by omega, by omega⟩ (by omega) (by omega) (off := 98) (by rw [hsw]; rfl) (tgt := 99) rfl ?_
    refine X_iconst i_X8_lengthOf_99 ?_
    refine X_iret i_X8_lengthOf_100 rfl ?_
    exact zri (by rw [hsw]; rfl)
  · refine X_tabIn i_X8_lengthOf_1 ⟨by omega, by omega⟩ (by omega) (by omega) (off := 91) (by rw [hsw]; rfl) (tgt := 92) rfl ?_
    refine X_bipush i_X8_lengthOf_92 (by decide +kernel) ?_
    refine X_iret i_X8_lengthOf_94 rfl ?_
    exact zri (by rw [hsw]; rfl)
  · refine X_tabIn i_X8_lengthOf_1 ⟨by omega, by omega⟩ (by omega) (by omega) (off := 98) (by rw [hsw]; rfl) (tgt := 99) rfl ?_
    refine X_iconst i_X8_lengthOf_99 ?_
    refine X_iret i_X8_lengthOf_100 rfl ?_
    exact zri (by rw [hsw]; rfl)
  · refine X_tabIn i_X8_lengthOf_1 ⟨by omega, by omega⟩ (by omega) (by omega) (off := 98) (by rw [hsw]; rfl) (tgt := 99) rfl ?_
    refine X_iconst i_X8_lengthOf_99 ?_
    refine X_iret i_X8_lengthOf_100 rfl ?_
    exact zri (by rw [hsw]; rfl)
  · refine X_tabIn i_X8_lengthOf_1 ⟨by omega, by omega⟩ (by omega) (by omega) (off := 98) (by rw [hsw]; rfl) (tgt := 99) rfl ?_
    refine X_iconst i_X8_lengthOf_99 ?_
    refine X_iret i_X8_lengthOf_100 rfl ?_
    exact zri (by rw [hsw]; rfl)
  · refine X_tabIn i_X8_lengthOf_1 ⟨by omega, by omega⟩ (by omega) (by omega) (off := 98) (by rw [hsw]; rfl) (tgt := 99) rfl ?_
    refine X_iconst i_X8_lengthOf_99 ?_
    refine X_iret i_X8_lengthOf_100 rfl ?_
    exact zri (by rw [hsw]; rfl)
  · refine X_tabIn i_X8_lengthOf_1 ⟨by omega, by omega⟩ (by omega) (by omega) (off := 98) (by rw [hsw]; rfl) (tgt := 99) rfl ?_
    refine X_iconst i_X8_lengthOf_99 ?_
    refine X_iret i_X8_lengthOf_100 rfl ?_
    exact zri (by rw [hsw]; rfl)
  · refine X_tabIn i_X8_lengthOf_1 ⟨by omega, by omega⟩ (by omega) (by omega) (off := 94) (by rw [hsw]; rfl) (tgt := 95) rfl ?_
    refine X_iconst i_X8_lengthOf_95 ?_
    refine X_iret i_X8_lengthOf_96 rfl ?_
    exact zri (by rw [hsw]; rfl)
  · refine X_tabIn i_X8_lengthOf_1 ⟨by omega, by omega⟩ (by omega) (by omega) (off := 98) (by rw [hsw]; rfl) (tgt := 99) rfl ?_
    refine X_iconst i_X8_lengthOf_99 ?_
    refine X_iret i_X8_lengthOf_100 rfl ?_
    exact zri (by rw [hsw]; rfl)
  · refine X_tabIn i_X8_lengthOf_1 ⟨by omega, by omega⟩ (by omega) (by omega) (off := 96) (by rw [hsw]; rfl) (tgt := 97) rfl ?_
    refine X_iconst i_X8_lengthOf_97 ?_
    refine X_iret i_X8_lengthOf_98 rfl ?_
    exact zri (by rw [hsw]; rfl)
  · refine X_tabIn i_X8_lengthOf_1 ⟨by omega, by omega⟩ (by omega) (by omega) (off := 98) (by rw [hsw]; rfl) (tgt := 99) rfl ?_
    refine X_iconst i_X8_lengthOf_99 ?_
    refine X_iret i_X8_lengthOf_100 rfl ?_
    exact zri (by rw [hsw]; rfl)
  · refine X_tabIn i_X8_lengthOf_1 ⟨by omega, by omega⟩ (by omega) (by omega) (off := 98) (by rw [hsw]; rfl) (tgt := 99) rfl ?_
    refine X_iconst i_X8_lengthOf_99 ?_
    refine X_iret i_X8_lengthOf_100 rfl ?_
    exact zri (by rw [hsw]; rfl)
  · refine X_tabIn i_X8_lengthOf_1 ⟨by omega, by omega⟩ (by omega) (by omega) (off := 96) (by rw [hsw]; rfl) (tgt := 97) rfl ?_
    refine X_iconst i_X8_lengthOf_97 ?_
    refine X_iret i_X8_lengthOf_98 rfl ?_
    exact zri (by rw [hsw]; rfl)
  · refine X_tabIn i_X8_lengthOf_1 ⟨by omega, by omega⟩ (by omega) (by omega) (off := 98) (by rw [hsw]; rfl) (tgt := 99) rfl ?_
    refine X_iconst i_X8_lengthOf_99 ?_
    refine X_iret i_X8_lengthOf_100 rfl ?_
    exact zri (by rw [hsw]; rfl)
  · refine X_tabIn i_X8_lengthOf_1 ⟨by omega, by omega⟩ (by omega) (by omega) (off := 98) (by rw [hsw]; rfl) (tgt := 99) rfl ?_
    refine X_iconst i_X8_lengthOf_99 ?_
    refine X_iret i_X8_lengthOf_100 rfl ?_
    exact zri (by rw [hsw]; rfl)
  · refine X_tabIn i_X8_lengthOf_1 ⟨by omega, by omega⟩ (by omega) (by omega) (off := 96) (by rw [hsw]; rfl) (tgt := 97) rfl ?_
    refine X_iconst i_X8_lengthOf_97 ?_
    refine X_iret i_X8_lengthOf_98 rfl ?_
    exact zri (by rw [hsw]; rfl)
  · refine X_tabOut i_X8_lengthOf_1 ⟨by omega, by omega⟩ (by omega) (tgt := 99) rfl ?_
    refine X_iconst i_X8_lengthOf_99 ?_
    refine X_iret i_X8_lengthOf_100 rfl ?_
    exact zri (by unfold sLn; rw [if_neg (by omega), if_neg (by omega), if_neg (by omega)]; rfl)
set_option maxRecDepth 100000 in
theorem c_X8_isDigit {M : zMem} {c : Int} (c0 : -1 ≤ c) (c1 : c ≤ 255) : zCt kX8_isDigit 0 [.int (zii c)] M (zRet (.int (zii (if 48 ≤ c ∧ c ≤ 57 then 1 else 0))) M) := by
  refine zMet (by decide) (Nat.le_of_ble_eq_true rfl) ?_
  show zX kX8_isDigit 0 0 [some (.int (zii c))] [] _ _
  refine Y_iload_0 i_X8_isDigit_0 ?_
  refine X_bipush i_X8_isDigit_1 (by decide +kernel) ?_
  refine X_icmp_lt i_X8_isDigit_3 (tgt := 16) rfl ⟨by omega, by omega⟩ ⟨by omega, by omega⟩ (fun h3 => ?_) (fun h3 => ?_)
  · refine X_iconst i_X8_isDigit_16 ?_
    refine X_zret i_X8_isDigit_17 rfl (by omega) ?_
    exact zri (by split <;> omega)
  · refine Y_iload_0 i_X8_isDigit_6 ?_
    refine X_bipush i_X8_isDigit_7 (by decide +kernel) ?_
    refine X_icmp_gt i_X8_isDigit_9 (tgt := 16) rfl ⟨by omega, by omega⟩ ⟨by omega, by omega⟩ (fun h9 => ?_) (fun h9 => ?_)
    · refine X_iconst i_X8_isDigit_16 ?_
      refine X_zret i_X8_isDigit_17 rfl (by omega) ?_
      exact zri (by split <;> omega)
    · refine X_iconst i_X8_isDigit_12 ?_
      refine X_goto i_X8_isDigit_13 (tgt := 17) rfl ?_
      refine X_zret i_X8_isDigit_17 rfl (by omega) ?_
      exact zri (by split <;> omega)
set_option maxRecDepth 100000 in
theorem c_X8_digitAt {M : zMem} {L : zAft} (e : M 4 = L) (hL : zLt L) {x : Int} (hx : zR x) : zCt kX8_digitAt 1 [.ref 21, .int (zii x)] M (zRet (.int (zii (sDi L x))) M) := by
  subst e
  refine zMet (by decide) (Nat.le_of_ble_eq_true rfl) ?_
  show zX kX8_digitAt 1 0 [some (.ref 21), some (.int (zii x))] [] _ _
  refine Y_aload_0 i_X8_digitAt_0 ?_
  refine Y_iload_1 i_X8_digitAt_1 ?_
  refine Y_callV (k' := kX6_at) i_X8_digitAt_2 l_X8_31 m_X6_at (c_X6_at_4 rfl hL.1 hx) rfl rfl rfl rfl rfl ?_
  refine X_bipush i_X8_digitAt_5 (by decide +kernel) ?_
  refine X_isub i_X8_digitAt_7 ?_
  refine X_iret i_X8_digitAt_8 rfl ?_
  exact zri rfl
set_option maxRecDepth 100000 in
theorem c_X8_twoDigitsAt {M : zMem} {L : zAft} (e : M 4 = L) (hL : zLt L) {x : Int} (x0 : 0 ≤ x) (x1 : x ≤ 1000) : zCt kX8_twoDigitsAt 2 [.ref 21, .int (zii x)] M (zRet (.int (zii (sD2 L x))) M) := by
  subst e
  refine zMet (by decide) (Nat.le_of_ble_eq_true rfl) ?_
  show zX kX8_twoDigitsAt 2 0 [some (.ref 21), some (.int (zii x))] [] _ _
  refine X_bipush i_X8_twoDigitsAt_0 (by decide +kernel) ?_
  refine Y_aload_0 i_X8_twoDigitsAt_2 ?_
  refine Y_iload_1 i_X8_twoDigitsAt_3 ?_
  refine Y_callS (k' := kX8_digitAt) i_X8_twoDigitsAt_4 l_X8_46 m_X8_digitAt (c_X8_digitAt (M := M) rfl hL ⟨by omega, by omega⟩) rfl rfl rfl rfl ?_
  refine X_imul i_X8_twoDigitsAt_7 ?_
  refine Y_aload_0 i_X8_twoDigitsAt_8 ?_
  refine Y_iload_1 i_X8_twoDigitsAt_9 ?_
  refine X_iconst i_X8_twoDigitsAt_10 ?_
  refine X_iadd i_X8_twoDigitsAt_11 ?_
  refine Y_callS (k' := kX8_digitAt) i_X8_twoDigitsAt_12 l_X8_46 m_X8_digitAt (c_X8_digitAt (M := M) rfl hL ⟨by omega, by omega⟩) rfl rfl rfl rfl ?_
  refine X_iadd i_X8_twoDigitsAt_15 ?_
  refine X_iret i_X8_twoDigitsAt_16 rfl ?_
  exact zri rfl
set_option maxRecDepth 100000 in
theorem c_X8_placeOfWrongLetterFrom {M : zMem} {L : zAft} (e : M 4 = L) (hL : zLt L) {s : Nat} (hs : s < 200) : zCt kX8_placeOfWrongLetterFrom 1 [.ref 21, .int (zii s)] M (zRet (.int (zii (sWf L s))) M) := by
  subst e
  have hc := sAt_in hL s
  have hl := sLn_in (sAt (M 4) s)
  refine zMet (by decide) (Nat.le_of_ble_eq_true rfl) ?_
  show zX kX8_placeOfWrongLetterFrom 1 0 [some (.ref 21), some (.int (zii s)), none, none] [] _ _
  have loop : ∀ (n : Nat) (j : Nat), j + n = sLn (sAt (M 4) s) - 2 → ¬ sLn (sAt (M 4) s) = 1 → (∀ q, q < j → sNd (M 4) s q = false) → zX kX8_placeOfWrongLetterFrom 1 24 [some (.ref 21), some (.int (zii s)), some (.int (zii ((s : Int) + (sLn (sAt (M 4) s) : Nat) - 1))), some (.int (zii ((s : Int) + 1 + j)))] [] M (zRet (.int (zii (sWf (M 4) s))) M) := by
    intro n
    induction n with
    | zero =>
      intro j  hg hn1 hno
      have h99 := sAt_in hL ((s : Int) + (sLn (sAt (M 4) s) : Nat) - 1)
      obtain rfl : j = sLn (sAt (M 4) s) - 2 := by omega
      have e9 := sFst_none (p := sNd (M 4) s) _ hno
      refine Y_iload_3 i_X8_placeOfWrongLetterFrom_24 ?_
      refine Y_iload_2 i_X8_placeOfWrongLetterFrom_25 ?_
      refine X_icmp_ge i_X8_placeOfWrongLetterFrom_26 (tgt := 48) rfl ⟨by omega, by omega⟩ ⟨by omega, by omega⟩ (fun h26 => ?_) (fun h26 => by exfalso; omega)
      refine Y_aload_0 i_X8_placeOfWrongLetterFrom_48 ?_
      refine Y_iload_2 i_X8_placeOfWrongLetterFrom_49 ?_
      refine Y_callV (k' := kX6_at) i_X8_placeOfWrongLetterFrom_50 l_X8_31 m_X6_at (c_X6_at_4 (M := M) (L := (M 4)) rfl hL.1 ⟨by omega, by omega⟩) rfl rfl rfl rfl rfl ?_
      change zX _ _ _ _ (.int (zii (sAt (M 4) ((s : Int) + (sLn (sAt (M 4) s) : Nat) - 1))) :: _) _ _
      refine X_bipush i_X8_placeOfWrongLetterFrom_53 (by decide +kernel) ?_
      refine Y_icmp_ne i_X8_placeOfWrongLetterFrom_55 (tgt := 62) rfl ⟨by omega, by omega⟩ ⟨by omega, by omega⟩ (fun h55 => ?_) (fun h55 => ?_)
      · refine Y_iload_2 i_X8_placeOfWrongLetterFrom_62 ?_
        refine X_iret i_X8_placeOfWrongLetterFrom_63 rfl ?_
        exact zri (by unfold sWf; rw [if_neg hn1, if_neg (by omega), if_neg h55])
      · refine X_iconst i_X8_placeOfWrongLetterFrom_58 ?_
        refine X_goto i_X8_placeOfWrongLetterFrom_59 (tgt := 63) rfl ?_
        refine X_iret i_X8_placeOfWrongLetterFrom_63 rfl ?_
        exact zri (by unfold sWf; rw [if_neg hn1, if_neg (by omega), if_pos h55])
    | succ n ih =>
      intro j  hg hn1 hno
      have hcj := sAt_in hL ((s : Int) + 1 + j)
      refine Y_iload_3 i_X8_placeOfWrongLetterFrom_24 ?_
      refine Y_iload_2 i_X8_placeOfWrongLetterFrom_25 ?_
      refine X_icmp_ge i_X8_placeOfWrongLetterFrom_26 (tgt := 48) rfl ⟨by omega, by omega⟩ ⟨by omega, by omega⟩ (fun h26 => by exfalso; omega) (fun h26 => ?_)
      refine Y_aload_0 i_X8_placeOfWrongLetterFrom_29 ?_
      refine Y_iload_3 i_X8_placeOfWrongLetterFrom_30 ?_
      refine Y_callV (k' := kX6_at) i_X8_placeOfWrongLetterFrom_31 l_X8_31 m_X6_at (c_X6_at_4 (M := M) (L := (M 4)) rfl hL.1 ⟨by omega, by omega⟩) rfl rfl rfl rfl rfl ?_
      change zX _ _ _ _ (.int (zii (sAt (M 4) ((s : Int) + 1 + (j : Int)))) :: _) _ _
      refine Y_callS (k' := kX8_isDigit) i_X8_placeOfWrongLetterFrom_34 l_X8_42 m_X8_isDigit (c_X8_isDigit hcj.1 hcj.2) rfl rfl rfl rfl ?_
      refine Y_ifq_ne i_X8_placeOfWrongLetterFrom_37 (tgt := 42) rfl  (fun h37 => ?_) (fun h37 => ?_)
      · refine Y_iinc_3 i_X8_placeOfWrongLetterFrom_42 rfl rfl ?_
        refine X_goto i_X8_placeOfWrongLetterFrom_45 (tgt := 24) rfl ?_
        exact X_eq (ih (j + 1) (by omega) hn1 (fun q hq => by
          by_cases e : q = j
          · subst e; unfold sNd; rw [decide_eq_true h37]; rfl
          · exact hno q (by omega))) (by rw [show (s : Int) + 1 + ((j + 1 : Nat) : Int) = (s : Int) + 1 + (j : Int) + 1 by omega]) rfl rfl
      · refine Y_iload_3 i_X8_placeOfWrongLetterFrom_40 ?_
        refine X_iret i_X8_placeOfWrongLetterFrom_41 rfl ?_
        have e9 := sFst_eq (p := sNd (M 4) s) hno (by unfold sNd; rw [decide_eq_false h37]; rfl) (sLn (sAt (M 4) s) - 2) (by omega)
        exact zri (by unfold sWf; rw [if_neg hn1, e9, if_pos (by omega)])
  refine Y_iload_1 i_X8_placeOfWrongLetterFrom_0 ?_
  refine Y_aload_0 i_X8_placeOfWrongLetterFrom_1 ?_
  refine Y_iload_1 i_X8_placeOfWrongLetterFrom_2 ?_
  refine Y_callV (k' := kX6_at) i_X8_placeOfWrongLetterFrom_3 l_X8_31 m_X6_at (c_X6_at_4 (M := M) (L := (M 4)) rfl hL.1 ⟨by omega, by omega⟩) rfl rfl rfl rfl rfl ?_
  change zX _ _ _ _ (.int (zii (sAt (M 4) (s : Int))) :: _) _ _
  refine Y_callS (k' := kX8_lengthOf) i_X8_placeOfWrongLetterFrom_6 l_X8_35 m_X8_lengthOf (c_X8_lengthOf hc.1 hc.2) rfl rfl rfl rfl ?_
  refine X_iadd i_X8_placeOfWrongLetterFrom_9 ?_
  refine X_iconst i_X8_placeOfWrongLetterFrom_10 ?_
  refine X_isub i_X8_placeOfWrongLetterFrom_11 ?_
  refine Y_istore_2 i_X8_placeOfWrongLetterFrom_12 rfl rfl ?_
  refine Y_iload_2 i_X8_placeOfWrongLetterFrom_13 ?_
  refine Y_iload_1 i_X8_placeOfWrongLetterFrom_14 ?_
  refine Y_icmp_ne i_X8_placeOfWrongLetterFrom_15 (tgt := 20) rfl ⟨by omega, by omega⟩ ⟨by omega, by omega⟩ (fun h15 => ?_) (fun h15 => ?_)
  · refine Y_iload_1 i_X8_placeOfWrongLetterFrom_20 ?_
    refine X_iconst i_X8_placeOfWrongLetterFrom_21 ?_
    refine X_iadd i_X8_placeOfWrongLetterFrom_22 ?_
    refine Y_istore_3 i_X8_placeOfWrongLetterFrom_23 rfl rfl ?_
    exact X_eq (loop (sLn (sAt (M 4) s) - 2) 0 (by omega) (by omega) (fun q h => absurd h (by omega))) (by rw [show (s : Int) + 1 + ((0 : Nat) : Int) = (s : Int) + 1 by omega]) rfl rfl
  · refine Y_iload_1 i_X8_placeOfWrongLetterFrom_18 ?_
    refine X_iret i_X8_placeOfWrongLetterFrom_19 rfl ?_
    exact zri (by unfold sWf; rw [if_pos (by omega)])
set_option maxRecDepth 100000 in
theorem c_X8_placeOfWrongLetter {M : zMem} {L : zAft} (e : M 4 = L) (hL : zLt L) : zCt kX8_placeOfWrongLetter 2 [.ref 21] M (zRet (.int (zii (sWrl L))) M) := by
  subst e
  have hL1 := hL.1
  refine zMet (by decide) (Nat.le_of_ble_eq_true rfl) ?_
  show zX kX8_placeOfWrongLetter 2 0 [some (.ref 21), none, none] [] _ _
  have loop : ∀ (n : Nat) (s : Nat) (lx : Option Value), 96 ≤ s + n → s ≤ 102 → ¬ M 4 1 0 = 0 → sWp (M 4) 96 0 = sWp (M 4) n s → zX kX8_placeOfWrongLetter 2 11 [some (.ref 21), some (.int (zii s)), lx] [] M (zRet (.int (zii (sWrl (M 4)))) M) := by
    intro n
    induction n with
    | zero =>
      intro s lx hg hs h0 hw
      refine Y_iload_1 i_X8_placeOfWrongLetter_11 ?_
      refine Y_aload_0 i_X8_placeOfWrongLetter_12 ?_
      refine Y_getI i_X8_placeOfWrongLetter_13 f_X8_21 rfl rfl ?_
      refine X_icmp_ge i_X8_placeOfWrongLetter_16 (tgt := 45) rfl ⟨by omega, by omega⟩ ⟨by omega, by omega⟩ (fun h16 => ?_) (fun h16 => by exfalso; omega)
      refine X_iconst i_X8_placeOfWrongLetter_45 ?_
      refine X_iret i_X8_placeOfWrongLetter_46 rfl ?_
      exact zri (by unfold sWrl; rw [if_neg h0, hw]; rfl)
    | succ n ih =>
      intro s lx hg hs h0 hw
      have hc := sAt_in hL s
      have hl := sLn_in (sAt (M 4) s)
      have hwf := sWf_in (M 4) s
      refine Y_iload_1 i_X8_placeOfWrongLetter_11 ?_
      refine Y_aload_0 i_X8_placeOfWrongLetter_12 ?_
      refine Y_getI i_X8_placeOfWrongLetter_13 f_X8_21 rfl rfl ?_
      refine X_icmp_ge i_X8_placeOfWrongLetter_16 (tgt := 45) rfl ⟨by omega, by omega⟩ ⟨by omega, by omega⟩ (fun h16 => ?_) (fun h16 => ?_)
      · refine X_iconst i_X8_placeOfWrongLetter_45 ?_
        refine X_iret i_X8_placeOfWrongLetter_46 rfl ?_
        exact zri (by unfold sWrl; rw [if_neg h0, hw]; simp only [sWp]; rw [if_neg (by omega)])
      · refine Y_aload_0 i_X8_placeOfWrongLetter_19 ?_
        refine Y_iload_1 i_X8_placeOfWrongLetter_20 ?_
        refine Y_callS (k' := kX8_placeOfWrongLetterFrom) i_X8_placeOfWrongLetter_21 l_X8_38 m_X8_placeOfWrongLetterFrom (c_X8_placeOfWrongLetterFrom (s := s) rfl hL (by omega)) rfl rfl rfl rfl ?_
        refine Y_istore_2 i_X8_placeOfWrongLetter_24 rfl rfl ?_
        refine Y_iload_2 i_X8_placeOfWrongLetter_25 ?_
        refine X_if_lt i_X8_placeOfWrongLetter_26 (tgt := 31) rfl ⟨by omega, by omega⟩ (fun h26 => ?_) (fun h26 => ?_)
        · refine Y_iload_1 i_X8_placeOfWrongLetter_31 ?_
          refine Y_aload_0 i_X8_placeOfWrongLetter_32 ?_
          refine Y_iload_1 i_X8_placeOfWrongLetter_33 ?_
          refine Y_callV (k' := kX6_at) i_X8_placeOfWrongLetter_34 l_X8_31 m_X6_at (c_X6_at_4 (M := M) (L := (M 4)) rfl hL.1 ⟨by omega, by omega⟩) rfl rfl rfl rfl rfl ?_
          change zX _ _ _ _ (.int (zii (sAt (M 4) (s : Int))) :: _) _ _
          refine Y_callS (k' := kX8_lengthOf) i_X8_placeOfWrongLetter_37 l_X8_35 m_X8_lengthOf (c_X8_lengthOf hc.1 hc.2) rfl rfl rfl rfl ?_
          refine X_iadd i_X8_placeOfWrongLetter_40 ?_
          refine Y_istore_1 i_X8_placeOfWrongLetter_41 rfl rfl ?_
          refine X_goto i_X8_placeOfWrongLetter_42 (tgt := 11) rfl ?_
          exact X_eq (ih (s + sLn (sAt (M 4) s)) _ (by omega) (by omega) h0 (by rw [hw]; simp only [sWp]; rw [if_pos (by omega), if_neg (by omega)])) (by rw [show ((s + sLn (sAt (M 4) s) : Nat) : Int) = (s : Int) + (sLn (sAt (M 4) s) : Nat) by omega]) rfl rfl
        · refine Y_iload_2 i_X8_placeOfWrongLetter_29 ?_
          refine X_iret i_X8_placeOfWrongLetter_30 rfl ?_
          exact zri (by unfold sWrl; rw [if_neg h0, hw]; simp only [sWp]; rw [if_pos (by omega), if_pos (by omega)])
  refine Y_aload_0 i_X8_placeOfWrongLetter_0 ?_
  refine Y_getI i_X8_placeOfWrongLetter_1 f_X8_21 rfl rfl ?_
  refine Y_if_ne i_X8_placeOfWrongLetter_4 (tgt := 9) rfl ⟨by omega, by omega⟩ (fun h4 => ?_) (fun h4 => ?_)
  · refine X_iconst i_X8_placeOfWrongLetter_9 ?_
    refine Y_istore_1 i_X8_placeOfWrongLetter_10 rfl rfl ?_
    exact loop 96 0 _ (by omega) (by omega) h4 rfl
  · refine X_iconst i_X8_placeOfWrongLetter_7 ?_
    refine X_iret i_X8_placeOfWrongLetter_8 rfl ?_
    exact zri (by unfold sWrl; rw [if_pos h4])
set_option maxRecDepth 100000 in
theorem c_X8_guestComes {M : zMem} {A : zAft} (hL : zLt (M 4)) (hA : zOk 999 A) {s : Nat} (hs : s ≤ 102) : zCt kX8_guestComes 3 [.ref 21, .int (zii s), .ref 7] ((zs M 1 A)) (zRet (.int (zii (if (sY_come A (sDi (M 4) ((s : Int) + 1)) (sDi (M 4) ((s : Int) + 2)) (sD2 (M 4) ((s : Int) + 3))) = 0 then 1 else 0))) (zs M 1 (if (sY_come A (sDi (M 4) ((s : Int) + 1)) (sDi (M 4) ((s : Int) + 2)) (sD2 (M 4) ((s : Int) + 3))) = 0 then sCome A (sDi (M 4) ((s : Int) + 1)) (sDi (M 4) ((s : Int) + 2)) (sD2 (M 4) ((s : Int) + 3)) else A))) := by
  have hd1 := sDi_in hL ((s : Int) + 1)
  have hd2 := sDi_in hL ((s : Int) + 2)
  have hq1 := sD2_in hL ((s : Int) + 1)
  have hq3 := sD2_in hL ((s : Int) + 3)
  have hy0 := sY_come_in A (sDi (M 4) ((s : Int) + 1)) (sDi (M 4) ((s : Int) + 2)) (sD2 (M 4) ((s : Int) + 3))
  refine zMet (by decide) (Nat.le_of_ble_eq_true rfl) ?_
  show zX kX8_guestComes 3 0 [some (.ref 21), some (.int (zii s)), some (.ref 7), none, none, none] [] _ _
  refine Y_aload_0 i_X8_guestComes_0 ?_
  refine Y_iload_1 i_X8_guestComes_1 ?_
  refine X_iconst i_X8_guestComes_2 ?_
  refine X_iadd i_X8_guestComes_3 ?_
  refine Y_callS (k' := kX8_digitAt) i_X8_guestComes_4 l_X8_46 m_X8_digitAt (c_X8_digitAt (M := zs M 1 A) (L := M 4) rfl hL ⟨by omega, by omega⟩) rfl rfl rfl rfl ?_
  refine Y_istore_3 i_X8_guestComes_7 rfl rfl ?_
  refine Y_aload_0 i_X8_guestComes_8 ?_
  refine Y_iload_1 i_X8_guestComes_9 ?_
  refine X_iconst i_X8_guestComes_10 ?_
  refine X_iadd i_X8_guestComes_11 ?_
  refine Y_callS (k' := kX8_digitAt) i_X8_guestComes_12 l_X8_46 m_X8_digitAt (c_X8_digitAt (M := zs M 1 A) (L := M 4) rfl hL ⟨by omega, by omega⟩) rfl rfl rfl rfl ?_
  refine Y_istore_4 i_X8_guestComes_15 rfl rfl ?_
  refine Y_aload_0 i_X8_guestComes_17 ?_
  refine Y_iload_1 i_X8_guestComes_18 ?_
  refine X_iconst i_X8_guestComes_19 ?_
  refine X_iadd i_X8_guestComes_20 ?_
  refine Y_callS (k' := kX8_twoDigitsAt) i_X8_guestComes_21 l_X8_79 m_X8_twoDigitsAt (c_X8_twoDigitsAt (M := zs M 1 A) (L := M 4) rfl hL (by omega) (by omega)) rfl rfl rfl rfl ?_
  refine Y_istore_5 i_X8_guestComes_24 rfl rfl ?_
  refine Y_aload_2 i_X8_guestComes_26 ?_
  refine Y_iload_3 i_X8_guestComes_27 ?_
  refine Y_iload_4 i_X8_guestComes_28 ?_
  refine Y_iload_5 i_X8_guestComes_30 ?_
  refine Y_callV (k' := kX0_whyNotCome) i_X8_guestComes_32 l_X8_88 m_X0_whyNotCome (c_X0_whyNotCome (i := 1) (M := zs M 1 A) (by omega) (zs_self _ _ _) hA.1 ⟨by omega, by omega⟩ ⟨by omega, by omega⟩ ⟨by omega, by omega⟩) rfl rfl rfl rfl rfl ?_
  change zX _ _ _ _ (.int (zii (sY_come A (sDi (M 4) ((s : Int) + 1)) (sDi (M 4) ((s : Int) + 2)) (sD2 (M 4) ((s : Int) + 3)))) :: _) _ _
  refine X_if_eq i_X8_guestComes_35 (tgt := 40) rfl ⟨by omega, by omega⟩ (fun h35 => ?_) (fun h35 => ?_)
  · have hr6 : A 6 0 < 6 := by
      have h9 := h35
      unfold sY_come at h9
      split at h9
      · omega
      · split at h9
        · omega
        · split at h9
          · omega
          · split at h9 <;> omega
    refine Y_aload_2 i_X8_guestComes_40 ?_
    refine Y_iload_3 i_X8_guestComes_41 ?_
    refine Y_iload_4 i_X8_guestComes_42 ?_
    refine Y_iload_5 i_X8_guestComes_44 ?_
    refine Y_callV (k' := kX0_come) i_X8_guestComes_46 l_X8_92 m_X0_come (c_X0_come (i := 1) (by omega) hA.1 hr6) rfl rfl rfl rfl rfl ?_
    refine X_pop i_X8_guestComes_49 rfl ?_
    refine X_iconst i_X8_guestComes_50 ?_
    refine X_zret i_X8_guestComes_51 rfl (by omega) ?_
    exact ⟨by rw [if_pos h35], by rw [if_pos h35]⟩
  · refine X_iconst i_X8_guestComes_38 ?_
    refine X_zret i_X8_guestComes_39 rfl (by omega) ?_
    exact ⟨by rw [if_neg h35], by rw [if_neg h35]⟩
set_option maxRecDepth 100000 in
theorem c_X8_comesTrue {M : zMem} {A : zAft} (hL : zLt (M 4)) (hA : zOk 999 A) {s : Nat} (hs : s ≤ 102) : zCt kX8_comesTrue 5 [.ref 21, .int (zii s), .ref 7] ((zs M 1 A)) (zRet (.int (zii (if (sTk (M 4) s A) = true then 1 else 0))) (zs M 1 (if (sTk (M 4) s A) = true then sTd (M 4) s A else A))) := by
  have hc := sAt_in hL s
  have hd1 := sDi_in hL ((s : Int) + 1)
  have hq1 := sD2_in hL ((s : Int) + 1)
  have hyrise := sY_rise_in A (sDi (M 4) ((s : Int) + 1))
  have hyslip := sY_slip_in A (sDi (M 4) ((s : Int) + 1))
  have hycups := sY_cups_in A (sDi (M 4) ((s : Int) + 1))
  have hypass := sY_pass_in A (sD2 (M 4) ((s : Int) + 1))
  refine zMet (by decide) (Nat.le_of_ble_eq_true rfl) ?_
  show zX kX8_comesTrue 5 0 [some (.ref 21), some (.int (zii s)), some (.ref 7), none, none] [] _ _
  refine Y_aload_0 i_X8_comesTrue_0 ?_
  refine Y_iload_1 i_X8_comesTrue_1 ?_
  refine X_iconst i_X8_comesTrue_2 ?_
  refine X_iadd i_X8_comesTrue_3 ?_
  refine Y_callS (k' := kX8_digitAt) i_X8_comesTrue_4 l_X8_46 m_X8_digitAt (c_X8_digitAt (M := zs M 1 A) (L := M 4) rfl hL ⟨by omega, by omega⟩) rfl rfl rfl rfl ?_
  refine Y_istore_3 i_X8_comesTrue_7 rfl rfl ?_
  refine Y_aload_0 i_X8_comesTrue_8 ?_
  refine Y_iload_1 i_X8_comesTrue_9 ?_
  refine Y_callV (k' := kX6_at) i_X8_comesTrue_10 l_X8_31 m_X6_at (c_X6_at_4 (M := zs M 1 A) (L := (M 4)) rfl hL.1 ⟨by omega, by omega⟩) rfl rfl rfl rfl rfl ?_
  change zX _ _ _ _ (.int (zii (sAt (M 4) (s : Int))) :: _) _ _
  rcases (by omega : sAt (M 4) s = 99 ∨ sAt (M 4) s = 103 ∨ sAt (M 4) s = 111 ∨ sAt (M 4) s = 114 ∨ sAt (M 4) s = 117 ∨ (sAt (M 4) s ≠ 99 ∧ sAt (M 4) s ≠ 103 ∧ sAt (M 4) s ≠ 111 ∧ sAt (M 4) s ≠ 114 ∧ sAt (M 4) s ≠ 117)) with hsw | hsw | hsw | hsw | hsw | hsw
  · refine X_look i_X8_comesTrue_13 (by decide) ⟨by omega, by omega⟩ (off := 94) (by rw [hsw]; decide) (tgt := 107) rfl ?_
    refine Y_aload_2 i_X8_comesTrue_107 ?_
    refine Y_iload_3 i_X8_comesTrue_108 ?_
    refine Y_callV (k' := kX0_whyNotCups) i_X8_comesTrue_109 l_X8_66 m_X0_whyNotCups (c_X0_whyNotCups (i := 1) (by omega) (zs_self _ _ _) hA ⟨by omega, by omega⟩) rfl rfl rfl rfl rfl ?_
    change zX _ _ _ _ (.int (zii (sY_cups A (sDi (M 4) ((s : Int) + 1)))) :: _) _ _
    refine X_if_eq i_X8_comesTrue_112 (tgt := 117) rfl ⟨by omega, by omega⟩ (fun h112 => ?_) (fun h112 => ?_)
    · refine Y_aload_2 i_X8_comesTrue_117 ?_
      refine Y_iload_3 i_X8_comesTrue_118 ?_
      refine Y_putI i_X8_comesTrue_119 f_X8_69 rfl t_0_7 (zp0 _ _ _ _ _ _) ?_
      refine X_iconst i_X8_comesTrue_122 ?_
      refine X_zret i_X8_comesTrue_123 rfl (by omega) ?_
      have hk : (sTk (M 4) s A) = true := by
        unfold sTk
        rw [if_neg (by omega), if_neg (by omega), if_neg (by omega), if_pos hsw]
        exact decide_eq_true (by exact h112)
      exact ⟨by rw [if_pos hk], by rw [if_pos hk]; unfold sTd; rw [if_neg (by omega), if_neg (by omega), if_neg (by omega), if_pos hsw]⟩
    · refine X_iconst i_X8_comesTrue_115 ?_
      refine X_zret i_X8_comesTrue_116 rfl (by omega) ?_
      have hk : (sTk (M 4) s A) = false := by
        unfold sTk
        rw [if_neg (by omega), if_neg (by omega), if_neg (by omega), if_pos hsw]
        exact decide_eq_false (by exact h112)
      exact ⟨by rw [hk]; rfl, by rw [hk]; rfl⟩
  · refine X_look i_X8_comesTrue_13 (by decide) ⟨by omega, by omega⟩ (off := 51) (by rw [hsw]; decide) (tgt := 64) rfl ?_
    refine Y_aload_0 i_X8_comesTrue_64 ?_
    refine Y_iload_1 i_X8_comesTrue_65 ?_
    refine Y_aload_2 i_X8_comesTrue_66 ?_
    refine Y_callS (k' := kX8_guestComes) i_X8_comesTrue_67 l_X8_49 m_X8_guestComes (c_X8_guestComes hL hA hs) rfl rfl rfl rfl ?_
    refine X_zret i_X8_comesTrue_70 rfl (by omega) ?_
    have e9 : (sTk (M 4) s A) = decide ((sY_come A (sDi (M 4) ((s : Int) + 1)) (sDi (M 4) ((s : Int) + 2)) (sD2 (M 4) ((s : Int) + 3))) = 0) := by unfold sTk; rw [if_pos hsw]
    have e8 : sTd (M 4) s A = sCome A (sDi (M 4) ((s : Int) + 1)) (sDi (M 4) ((s : Int) + 2)) (sD2 (M 4) ((s : Int) + 3)) := by unfold sTd; rw [if_pos hsw]
    by_cases z : (sY_come A (sDi (M 4) ((s : Int) + 1)) (sDi (M 4) ((s : Int) + 2)) (sD2 (M 4) ((s : Int) + 3))) = 0
    · have e7 : (sTk (M 4) s A) = true := by rw [e9]; exact decide_eq_true z
      exact ⟨by rw [if_pos z, if_pos e7], by rw [if_pos z, if_pos e7, e8]⟩
    · have e7 : (sTk (M 4) s A) = false := by rw [e9]; exact decide_eq_false z
      exact ⟨by rw [if_neg z, e7]; rfl, by rw [if_neg z, e7]; rfl⟩
  · refine X_look i_X8_comesTrue_13 (by decide) ⟨by omega, by omega⟩ (off := 75) (by rw [hsw]; decide) (tgt := 88) rfl ?_
    refine Y_aload_2 i_X8_comesTrue_88 ?_
    refine Y_iload_3 i_X8_comesTrue_89 ?_
    refine Y_callV (k' := kX0_whyNotSlip) i_X8_comesTrue_90 l_X8_59 m_X0_whyNotSlip (c_X0_whyNotSlip (i := 1) (by omega) (zs_self _ _ _) hA ⟨by omega, by omega⟩) rfl rfl rfl rfl rfl ?_
    change zX _ _ _ _ (.int (zii (sY_slip A (sDi (M 4) ((s : Int) + 1)))) :: _) _ _
    refine X_if_eq i_X8_comesTrue_93 (tgt := 98) rfl ⟨by omega, by omega⟩ (fun h93 => ?_) (fun h93 => ?_)
    · have h9 := h93
      unfold sY_slip at h9
      have hgb : 0 ≤ (sDi (M 4) ((s : Int) + 1)) ∧ (sDi (M 4) ((s : Int) + 1)) < 6 := by
        have h8 := hA.1
        unfold zH at h8
        split at h9 <;> omega
      refine Y_aload_2 i_X8_comesTrue_98 ?_
      refine X_getR i_X8_comesTrue_99 f_X8_62 rfl ?_
      refine Y_iload_3 i_X8_comesTrue_102 ?_
      refine X_iconst i_X8_comesTrue_103 ?_
      refine Y_iast i_X8_comesTrue_104 rfl ⟨by omega, by omega⟩ rfl (zp0 _ _ _ _ _ _) ?_
      refine X_iconst i_X8_comesTrue_105 ?_
      refine X_zret i_X8_comesTrue_106 rfl (by omega) ?_
      have hk : (sTk (M 4) s A) = true := by
        unfold sTk
        rw [if_neg (by omega), if_neg (by omega), if_pos hsw]
        exact decide_eq_true (by exact h93)
      exact ⟨by rw [if_pos hk], by rw [if_pos hk]; unfold sTd; rw [if_neg (by omega), if_neg (by omega), if_pos hsw]⟩
    · refine X_iconst i_X8_comesTrue_96 ?_
      refine X_zret i_X8_comesTrue_97 rfl (by omega) ?_
      have hk : (sTk (M 4) s A) = false := by
        unfold sTk
        rw [if_neg (by omega), if_neg (by omega), if_pos hsw]
        exact decide_eq_false (by exact h93)
      exact ⟨by rw [hk]; rfl, by rw [hk]; rfl⟩
  · refine X_look i_X8_comesTrue_13 (by decide) ⟨by omega, by omega⟩ (off := 58) (by rw [hsw]; decide) (tgt := 71) rfl ?_
    refine Y_aload_2 i_X8_comesTrue_71 ?_
    refine Y_iload_3 i_X8_comesTrue_72 ?_
    refine Y_callV (k' := kX0_whyNotRise) i_X8_comesTrue_73 l_X8_52 m_X0_whyNotRise (c_X0_whyNotRise (i := 1) (by omega) (zs_self _ _ _) hA ⟨by omega, by omega⟩) rfl rfl rfl rfl rfl ?_
    change zX _ _ _ _ (.int (zii (sY_rise A (sDi (M 4) ((s : Int) + 1)))) :: _) _ _
    refine X_if_eq i_X8_comesTrue_76 (tgt := 81) rfl ⟨by omega, by omega⟩ (fun h76 => ?_) (fun h76 => ?_)
    · have h9 := h76
      unfold sY_rise at h9
      have hgb : 0 ≤ (sDi (M 4) ((s : Int) + 1)) ∧ (sDi (M 4) ((s : Int) + 1)) < 6 := by
        have h8 := hA.1
        unfold zH at h8
        split at h9 <;> omega
      refine Y_aload_2 i_X8_comesTrue_81 ?_
      refine Y_iload_3 i_X8_comesTrue_82 ?_
      refine Y_callVv (k' := kX0_rise) i_X8_comesTrue_83 l_X8_55 m_X0_rise (c_X0_rise (i := 1) (by omega) (by omega) (by omega)) rfl rfl rfl rfl rfl ?_
      refine X_iconst i_X8_comesTrue_86 ?_
      refine X_zret i_X8_comesTrue_87 rfl (by omega) ?_
      have hk : (sTk (M 4) s A) = true := by
        unfold sTk
        rw [if_neg (by omega), if_pos hsw]
        exact decide_eq_true (by exact h76)
      exact ⟨by rw [if_pos hk], by rw [if_pos hk]; unfold sTd; rw [if_neg (by omega), if_pos hsw]⟩
    · refine X_iconst i_X8_comesTrue_79 ?_
      refine X_zret i_X8_comesTrue_80 rfl (by omega) ?_
      have hk : (sTk (M 4) s A) = false := by
        unfold sTk
        rw [if_neg (by omega), if_pos hsw]
        exact decide_eq_false (by exact h76)
      exact ⟨by rw [hk]; rfl, by rw [hk]; rfl⟩
  · refine X_look i_X8_comesTrue_13 (by decide) ⟨by omega, by omega⟩ (off := 111) (by rw [hsw]; decide) (tgt := 124) rfl ?_
    refine Y_iload_3 i_X8_comesTrue_124 ?_
    refine X_iconst i_X8_comesTrue_125 ?_
    refine Y_callS (k' := kX9_isOther) i_X8_comesTrue_126 l_X8_72 m_X9_isOther (c_X9_isOther ⟨by omega, by omega⟩ (zR_lit rfl)) rfl rfl rfl rfl ?_
    refine Y_ifq_eq i_X8_comesTrue_129 (tgt := 134) rfl  (fun h129 => ?_) (fun h129 => ?_)
    · refine Y_aload_2 i_X8_comesTrue_134 ?_
      refine Y_iload_3 i_X8_comesTrue_135 ?_
      refine Y_putI i_X8_comesTrue_136 f_X8_76 rfl t_0_8 (zp0 _ _ _ _ _ _) ?_
      refine X_iconst i_X8_comesTrue_139 ?_
      refine X_zret i_X8_comesTrue_140 rfl (by omega) ?_
      have hk : (sTk (M 4) s A) = true := by
        unfold sTk
        rw [if_neg (by omega), if_neg (by omega), if_neg (by omega), if_neg (by omega), if_pos hsw]
        exact decide_eq_true (by omega)
      exact ⟨by rw [if_pos hk], by rw [if_pos hk]; unfold sTd; rw [if_neg (by omega), if_neg (by omega), if_neg (by omega), if_neg (by omega), if_pos hsw]⟩
    · refine X_iconst i_X8_comesTrue_132 ?_
      refine X_zret i_X8_comesTrue_133 rfl (by omega) ?_
      have hk : (sTk (M 4) s A) = false := by
        unfold sTk
        rw [if_neg (by omega), if_neg (by omega), if_neg (by omega), if_neg (by omega), if_pos hsw]
        exact decide_eq_false (by omega)
      exact ⟨by rw [hk]; rfl, by rw [hk]; rfl⟩
  · refine X_look i_X8_comesTrue_13 (by decide) ⟨by omega, by omega⟩ (off := 128) (by simp only [Op.lookupswitch.offset, List.find?]; first | rfl | (repeat (first | rfl | (rw [if_neg (by omega)])))) (tgt := 141) rfl ?_
    refine Y_aload_0 i_X8_comesTrue_141 ?_
    refine Y_iload_1 i_X8_comesTrue_142 ?_
    refine X_iconst i_X8_comesTrue_143 ?_
    refine X_iadd i_X8_comesTrue_144 ?_
    refine Y_callS (k' := kX8_twoDigitsAt) i_X8_comesTrue_145 l_X8_79 m_X8_twoDigitsAt (c_X8_twoDigitsAt (M := zs M 1 A) (L := M 4) rfl hL (by omega) (by omega)) rfl rfl rfl rfl ?_
    refine Y_istore_4 i_X8_comesTrue_148 rfl rfl ?_
    refine Y_aload_2 i_X8_comesTrue_150 ?_
    refine Y_iload_4 i_X8_comesTrue_151 ?_
    refine Y_callV (k' := kX0_whyNotPass) i_X8_comesTrue_153 l_X8_82 m_X0_whyNotPass (c_X0_whyNotPass (i := 1) (by omega) (zs_self _ _ _) (by omega) hA ⟨by omega, by omega⟩) rfl rfl rfl rfl rfl ?_
    change zX _ _ _ _ (.int (zii (sY_pass A (sD2 (M 4) ((s : Int) + 1)))) :: _) _ _
    refine X_if_eq i_X8_comesTrue_156 (tgt := 161) rfl ⟨by omega, by omega⟩ (fun h156 => ?_) (fun h156 => ?_)
    · have h9 := h156
      unfold sY_pass at h9
      have hgb : 1 ≤ (sD2 (M 4) ((s : Int) + 1)) ∧ (sD2 (M 4) ((s : Int) + 1)) ≤ 60 := by
        split at h9
        · omega
        · split at h9 <;> omega
      rw [show (sD2 (M 4) ((s : Int) + 1)) = (((sD2 (M 4) ((s : Int) + 1)).toNat : Nat) : Int) by omega]
      refine Y_aload_2 i_X8_comesTrue_161 ?_
      refine Y_iload_4 i_X8_comesTrue_162 ?_
      refine Y_callVv (k' := kX0_pass) i_X8_comesTrue_164 l_X8_85 m_X0_pass (c_X0_pass (i := 1) (by omega) hA (by omega) (by omega)) rfl rfl rfl rfl rfl ?_
      refine X_iconst i_X8_comesTrue_167 ?_
      refine X_zret i_X8_comesTrue_168 rfl (by omega) ?_
      have hk : (sTk (M 4) s A) = true := by
        unfold sTk
        rw [if_neg (by omega), if_neg (by omega), if_neg (by omega), if_neg (by omega), if_neg (by omega)]
        exact decide_eq_true (by exact h156)
      exact ⟨by rw [if_pos hk], by rw [if_pos hk]; unfold sTd; rw [if_neg (by omega), if_neg (by omega), if_neg (by omega), if_neg (by omega), if_neg (by omega)]⟩
    · refine X_iconst i_X8_comesTrue_159 ?_
      refine X_zret i_X8_comesTrue_160 rfl (by omega) ?_
      have hk : (sTk (M 4) s A) = false := by
        unfold sTk
        rw [if_neg (by omega), if_neg (by omega), if_neg (by omega), if_neg (by omega), if_neg (by omega)]
        exact decide_eq_false (by exact h156)
      exact ⟨by rw [hk]; rfl, by rw [hk]; rfl⟩
theorem sHf_ok {L : zAft} : ∀ (n s k : Nat) (A : zAft), zOk 999 A → zOk 999 (sHf L n s k A).2 := by
  intro n
  induction n with
  | zero => intro s k A h; exact h
  | succ n ih =>
    intro s k A h
    simp only [sHf]
    split
    · split
      next hk => exact ih _ _ _ (sTd_ok h hk)
      next => exact h
    · exact h
set_option maxRecDepth 100000 in
theorem c_X8_follow {M : zMem} {A B : zAft} (e : M 0 = A) (hL : zLt (M 4)) (hA : zOk 999 A) : zCt kX8_follow 6 [.ref 21, .ref 0, .ref 7] ((zs M 1 B)) (fun r M9 => r = some (.int (zii (sHa (M 4) A).1)) ∧ ∃ C, M9 = zs M 1 C ∧ (0 < (sHa (M 4) A).1 → C = (sHa (M 4) A).2)) := by
  subst e
  have hL1 := hL.1
  have hw := sWp_in (M 4) hL.1.2 96 0
  have hw2 : -1 ≤ sWrl (M 4) ∧ sWrl (M 4) ≤ 102 := by unfold sWrl; split <;> omega
  refine zMet (by decide) (Nat.le_of_ble_eq_true rfl) ?_
  show zX kX8_follow 6 0 [some (.ref 21), some (.ref 0), some (.ref 7), none, none, none] [] _ _
  have loop : ∀ (n : Nat) (s : Nat) (k : Nat) (C : zAft), 96 ≤ s + n → s ≤ 102 → k ≤ s → ¬ 0 ≤ sWrl (M 4) → zOk 999 C → sHf (M 4) 96 0 0 (M 0) = sHf (M 4) n s k C → zX kX8_follow 6 26 [some (.ref 21), some (.ref 0), some (.ref 7), some (.int (zii (sWrl (M 4)))), some (.int (zii k)), some (.int (zii s))] [] (zs M 1 C) (fun r M9 => r = some (.int (zii (sHa (M 4) (M 0)).1)) ∧ ∃ C, M9 = zs M 1 C ∧ (0 < (sHa (M 4) (M 0)).1 → C = (sHa (M 4) (M 0)).2)) := by
    intro n
    induction n with
    | zero =>
      intro s k C hg hs hk h0 hC hf
      refine Y_iload_5 i_X8_follow_26 ?_
      refine Y_aload_0 i_X8_follow_28 ?_
      refine Y_getI i_X8_follow_29 f_X8_21 rfl (zg1 rfl rfl) ?_
      refine X_icmp_ge i_X8_follow_32 (tgt := 72) rfl ⟨by omega, by omega⟩ ⟨by omega, by omega⟩ (fun h32 => ?_) (fun h32 => by exfalso; omega)
      refine Y_iload_4 i_X8_follow_72 ?_
      refine X_iret i_X8_follow_74 rfl ?_
      have e9 : sHa (M 4) (M 0) = ((k : Int), C) := by unfold sHa; rw [if_neg h0, hf]; rfl
      exact ⟨by rw [e9], C, rfl, fun _ => by rw [e9]⟩
    | succ n ih =>
      intro s k C hg hs hk h0 hC hf
      have hc := sAt_in hL s
      have hl := sLn_in (sAt (M 4) s)
      refine Y_iload_5 i_X8_follow_26 ?_
      refine Y_aload_0 i_X8_follow_28 ?_
      refine Y_getI i_X8_follow_29 f_X8_21 rfl (zg1 rfl rfl) ?_
      refine X_icmp_ge i_X8_follow_32 (tgt := 72) rfl ⟨by omega, by omega⟩ ⟨by omega, by omega⟩ (fun h32 => ?_) (fun h32 => ?_)
      · refine Y_iload_4 i_X8_follow_72 ?_
        refine X_iret i_X8_follow_74 rfl ?_
        have e9 : sHa (M 4) (M 0) = ((k : Int), C) := by unfold sHa; rw [if_neg h0, hf]; simp only [sHf]; rw [if_neg (by omega)]
        exact ⟨by rw [e9], C, rfl, fun _ => by rw [e9]⟩
      · refine Y_aload_0 i_X8_follow_35 ?_
        refine Y_iload_5 i_X8_follow_36 ?_
        refine Y_aload_2 i_X8_follow_38 ?_
        refine Y_callS (k' := kX8_comesTrue) i_X8_follow_39 l_X8_27 m_X8_comesTrue (c_X8_comesTrue (M := M) hL hC hs) rfl rfl rfl rfl ?_
        refine Y_ifq_ne i_X8_follow_42 (tgt := 52) rfl  (fun h42 => ?_) (fun h42 => ?_)
        · refine Y_iinc_4 i_X8_follow_52 rfl rfl ?_
          refine Y_iload_5 i_X8_follow_55 ?_
          refine Y_aload_0 i_X8_follow_57 ?_
          refine Y_iload_5 i_X8_follow_58 ?_
          refine Y_callV (k' := kX6_at) i_X8_follow_60 l_X8_31 m_X6_at (c_X6_at_4 (M := zs M 1 (if sTk (M 4) s C = true then sTd (M 4) s C else C)) (L := (M 4)) rfl hL.1 ⟨by omega, by omega⟩) rfl rfl rfl rfl rfl ?_
          change zX _ _ _ _ (.int (zii (sAt (M 4) (s : Int))) :: _) _ _
          refine Y_callS (k' := kX8_lengthOf) i_X8_follow_63 l_X8_35 m_X8_lengthOf (c_X8_lengthOf hc.1 hc.2) rfl rfl rfl rfl ?_
          refine X_iadd i_X8_follow_66 ?_
          refine Y_istore_5 i_X8_follow_67 rfl rfl ?_
          refine X_goto i_X8_follow_69 (tgt := 26) rfl ?_
          exact X_eq (ih (s + sLn (sAt (M 4) s)) (k + 1) (sTd (M 4) s C) (by omega) (by omega) (by omega) h0 (sTd_ok hC h42) (by rw [hf]; simp only [sHf]; rw [if_pos (by omega), if_pos h42])) (by rw [show ((s + sLn (sAt (M 4) s) : Nat) : Int) = (s : Int) + (sLn (sAt (M 4) s) : Nat) by omega]; rfl) rfl (by rw [if_pos h42])
        · refine X_sipush i_X8_follow_45 (by decide +kernel) ?_
          refine Y_iload_5 i_X8_follow_48 ?_
          refine X_isub i_X8_follow_50 ?_
          refine X_iret i_X8_follow_51 rfl ?_
          have e9 : sHa (M 4) (M 0) = (-2000 - (s : Int), C) := by unfold sHa; rw [if_neg h0, hf]; simp only [sHf]; rw [if_pos (by omega), if_neg h42]
          exact ⟨by rw [e9], _, rfl, fun z => by rw [e9] at z; simp only at z; omega⟩
  refine Y_aload_0 i_X8_follow_0 ?_
  refine Y_callS (k' := kX8_placeOfWrongLetter) i_X8_follow_1 l_X8_9 m_X8_placeOfWrongLetter (c_X8_placeOfWrongLetter (M := zs M 1 B) (L := M 4) rfl hL) rfl rfl rfl rfl ?_
  refine Y_istore_3 i_X8_follow_4 rfl rfl ?_
  refine Y_iload_3 i_X8_follow_5 ?_
  refine X_if_lt i_X8_follow_6 (tgt := 15) rfl ⟨by omega, by omega⟩ (fun h6 => ?_) (fun h6 => ?_)
  · refine Y_aload_2 i_X8_follow_15 ?_
    refine Y_aload_1 i_X8_follow_16 ?_
    refine Y_callVv (k' := kX0_copyFrom) i_X8_follow_17 l_X8_15 m_X0_copyFrom (c_X0_copyFrom (i := 1) (j := 0) (by omega) (by omega) rfl) rfl rfl rfl rfl rfl ?_
    refine X_iconst i_X8_follow_20 ?_
    refine Y_istore_4 i_X8_follow_21 rfl rfl ?_
    refine X_iconst i_X8_follow_23 ?_
    refine Y_istore_5 i_X8_follow_24 rfl rfl ?_
    exact loop 96 0 0 (M 0) (by omega) (by omega) (Nat.le_refl _) (by omega) hA rfl
  · refine X_sipush i_X8_follow_9 (by decide +kernel) ?_
    refine Y_iload_3 i_X8_follow_12 ?_
    refine X_isub i_X8_follow_13 ?_
    refine X_iret i_X8_follow_14 rfl ?_
    have e9 : sHa (M 4) (M 0) = (-1000 - sWrl (M 4), M 0) := by unfold sHa; rw [if_pos (by omega)]
    exact ⟨by rw [e9], B, rfl, fun z => by rw [e9] at z; simp only at z; omega⟩
