theorem zaf_0 {i : Nat} (hi : i < 3) : zfld (7 * i) 0 0 = some (.inl (7 * i + 1)) := by match i, hi with | 0, _ => rfl | 1, _ => rfl | 2, _ => rfl
theorem zaf_1 {i : Nat} (hi : i < 3) : zfld (7 * i) 0 1 = some (.inl (7 * i + 2)) := by match i, hi with | 0, _ => rfl | 1, _ => rfl | 2, _ => rfl
theorem zaf_2 {i : Nat} (hi : i < 3) : zfld (7 * i) 0 2 = some (.inl (7 * i + 3)) := by match i, hi with | 0, _ => rfl | 1, _ => rfl | 2, _ => rfl
theorem zaf_3 {i : Nat} (hi : i < 3) : zfld (7 * i) 0 3 = some (.inl (7 * i + 4)) := by match i, hi with | 0, _ => rfl | 1, _ => rfl | 2, _ => rfl
theorem zaf_4 {i : Nat} (hi : i < 3) : zfld (7 * i) 0 4 = some (.inl (7 * i + 5)) := by match i, hi with | 0, _ => rfl | 1, _ => rfl | 2, _ => rfl
theorem zaf_5 {i : Nat} (hi : i < 3) : zfld (7 * i) 0 5 = some (.inl (7 * i + 6)) := by match i, hi with | 0, _ => rfl | 1, _ => rfl | 2, _ => rfl
theorem zaf_6 {i : Nat} (hi : i < 3) : zfld (7 * i) 0 6 = some (.inr (i, 6, 0)) := by match i, hi with | 0, _ => rfl | 1, _ => rfl | 2, _ => rfl
theorem zaf_7 {i : Nat} (hi : i < 3) : zfld (7 * i) 0 7 = some (.inr (i, 6, 1)) := by match i, hi with | 0, _ => rfl | 1, _ => rfl | 2, _ => rfl
theorem zaf_8 {i : Nat} (hi : i < 3) : zfld (7 * i) 0 8 = some (.inr (i, 6, 2)) := by match i, hi with | 0, _ => rfl | 1, _ => rfl | 2, _ => rfl
theorem zaf_9 {i : Nat} (hi : i < 3) : zfld (7 * i) 0 9 = some (.inr (i, 6, 3)) := by match i, hi with | 0, _ => rfl | 1, _ => rfl | 2, _ => rfl
theorem zaf_10 {i : Nat} (hi : i < 3) : zfld (7 * i) 0 10 = some (.inr (i, 6, 4)) := by match i, hi with | 0, _ => rfl | 1, _ => rfl | 2, _ => rfl
theorem zaa_0 {i : Nat} (hi : i < 3) : zarr (7 * i + 1) = some (6, i, 0) := by match i, hi with | 0, _ => rfl | 1, _ => rfl | 2, _ => rfl
theorem zaa_1 {i : Nat} (hi : i < 3) : zarr (7 * i + 2) = some (6, i, 1) := by match i, hi with | 0, _ => rfl | 1, _ => rfl | 2, _ => rfl
theorem zaa_2 {i : Nat} (hi : i < 3) : zarr (7 * i + 3) = some (6, i, 2) := by match i, hi with | 0, _ => rfl | 1, _ => rfl | 2, _ => rfl
theorem zaa_3 {i : Nat} (hi : i < 3) : zarr (7 * i + 4) = some (6, i, 3) := by match i, hi with | 0, _ => rfl | 1, _ => rfl | 2, _ => rfl
theorem zaa_4 {i : Nat} (hi : i < 3) : zarr (7 * i + 5) = some (6, i, 4) := by match i, hi with | 0, _ => rfl | 1, _ => rfl | 2, _ => rfl
theorem zaa_5 {i : Nat} (hi : i < 3) : zarr (7 * i + 6) = some (6, i, 5) := by match i, hi with | 0, _ => rfl | 1, _ => rfl | 2, _ => rfl
theorem zao {i : Nat} (hi : i < 3) : zob (7 * i) = some 0 := by match i, hi with | 0, _ => rfl | 1, _ => rfl | 2, _ => rfl
set_option maxRecDepth 100000 in
theorem c_X5_limit {k f : Int} {M : zMem} (hk : 0 ≤ k ∧ k ≤ 5) (hf : 0 ≤ f ∧ f ≤ 9) : zCt kX5_limit 0 [.int (zii k), .int (zii f)] M (zRet (.int (zii (sLim k f))) M) := by
  have hd : zdiv (4 + f) 2 = (4 + f) / 2 := zdiv_pos ⟨by omega, by omega⟩ (by omega) ⟨by omega, by omega⟩ (by omega)
  refine zMet (by decide) (Nat.le_of_ble_eq_true rfl) ?_
  show zX kX5_limit 0 0 [some (.int (zii k)), some (.int (zii f)), none] [] _ _
  refine X_iconst i_X5_limit_0 ?_
  refine Y_iload_1 i_X5_limit_1 ?_
  refine X_iadd i_X5_limit_2 ?_
  refine Y_istore_2 i_X5_limit_3 rfl rfl ?_
  refine Y_iload_0 i_X5_limit_4 ?_
  rcases (by omega : k = 0 ∨ k = 1 ∨ k = 2 ∨ k = 3 ∨ k = 4 ∨ k = 5) with hsw | hsw | hsw | hsw | hsw | hsw
  · refine X_tabOut i_X5_limit_5 ⟨by omega, by omega⟩ (by omega) (tgt := 60) rfl ?_
    refine Y_iload_2 i_X5_limit_60 ?_
    refine X_iret i_X5_limit_61 rfl ?_
    exact ⟨by simp [sLim, hsw, hd], rfl⟩
  · refine X_tabIn i_X5_limit_5 ⟨by omega, by omega⟩ (by omega) (by omega) (off := 35) (by rw [hsw]; rfl) (tgt := 40) rfl ?_
    refine Y_iload_2 i_X5_limit_40 ?_
    refine X_iconst i_X5_limit_41 ?_
    refine X_idiv i_X5_limit_42 ⟨by omega, by omega⟩ (by omega) ?_
    refine X_iret i_X5_limit_43 rfl ?_
    exact ⟨by simp [sLim, hsw, hd], rfl⟩
  · refine X_tabIn i_X5_limit_5 ⟨by omega, by omega⟩ (by omega) (by omega) (off := 39) (by rw [hsw]; rfl) (tgt := 44) rfl ?_
    refine Y_iload_2 i_X5_limit_44 ?_
    refine X_bipush i_X5_limit_45 (by decide +kernel) ?_
    refine X_iadd i_X5_limit_47 ?_
    refine X_iret i_X5_limit_48 rfl ?_
    exact ⟨by simp [sLim, hsw, hd], rfl⟩
  · refine X_tabIn i_X5_limit_5 ⟨by omega, by omega⟩ (by omega) (by omega) (off := 44) (by rw [hsw]; rfl) (tgt := 49) rfl ?_
    refine Y_iload_2 i_X5_limit_49 ?_
    refine X_iconst i_X5_limit_50 ?_
    refine X_idiv i_X5_limit_51 ⟨by omega, by omega⟩ (by omega) ?_
    refine X_iconst i_X5_limit_52 ?_
    refine X_iadd i_X5_limit_53 ?_
    refine X_iret i_X5_limit_54 rfl ?_
    exact ⟨by simp [sLim, hsw, hd], rfl⟩
  · refine X_tabIn i_X5_limit_5 ⟨by omega, by omega⟩ (by omega) (by omega) (off := 50) (by rw [hsw]; rfl) (tgt := 55) rfl ?_
    refine X_iconst i_X5_limit_55 ?_
    refine X_iret i_X5_limit_56 rfl ?_
    exact ⟨by simp [sLim, hsw, hd], rfl⟩
  · refine X_tabIn i_X5_limit_5 ⟨by omega, by omega⟩ (by omega) (by omega) (off := 52) (by rw [hsw]; rfl) (tgt := 57) rfl ?_
    refine X_bipush i_X5_limit_57 (by decide +kernel) ?_
    refine X_iret i_X5_limit_59 rfl ?_
    exact ⟨by simp [sLim, hsw, hd], rfl⟩
set_option maxRecDepth 100000 in
theorem c_X5_patience {k f : Int} {M : zMem} (hk : 0 ≤ k ∧ k ≤ 5) (hf : 0 ≤ f ∧ f ≤ 9) : zCt kX5_patience 0 [.int (zii k), .int (zii f)] M (zRet (.int (zii (sPat k f))) M) := by
  refine zMet (by decide) (Nat.le_of_ble_eq_true rfl) ?_
  show zX kX5_patience 0 0 [some (.int (zii k)), some (.int (zii f))] [] _ _
  refine Y_iload_0 i_X5_patience_0 ?_
  rcases (by omega : k = 0 ∨ k = 1 ∨ k = 2 ∨ k = 3 ∨ k = 4 ∨ k = 5) with hsw | hsw | hsw | hsw | hsw | hsw
  · refine X_tabOut i_X5_patience_1 ⟨by omega, by omega⟩ (by omega) (tgt := 45) rfl ?_
    refine X_iconst i_X5_patience_45 ?_
    refine X_iret i_X5_patience_46 rfl ?_
    exact ⟨by simp [sPat, hsw], rfl⟩
  · refine X_tabIn i_X5_patience_1 ⟨by omega, by omega⟩ (by omega) (by omega) (off := 35) (by rw [hsw]; rfl) (tgt := 36) rfl ?_
    refine X_iconst i_X5_patience_36 ?_
    refine Y_iload_1 i_X5_patience_37 ?_
    refine X_iadd i_X5_patience_38 ?_
    refine X_iret i_X5_patience_39 rfl ?_
    exact ⟨by simp [sPat, hsw], rfl⟩
  · refine X_tabIn i_X5_patience_1 ⟨by omega, by omega⟩ (by omega) (by omega) (off := 39) (by rw [hsw]; rfl) (tgt := 40) rfl ?_
    refine X_bipush i_X5_patience_40 (by decide +kernel) ?_
    refine X_iret i_X5_patience_42 rfl ?_
    exact ⟨by simp [sPat, hsw], rfl⟩
  · refine X_tabIn i_X5_patience_1 ⟨by omega, by omega⟩ (by omega) (by omega) (off := 35) (by rw [hsw]; rfl) (tgt := 36) rfl ?_
    refine X_iconst i_X5_patience_36 ?_
    refine Y_iload_1 i_X5_patience_37 ?_
    refine X_iadd i_X5_patience_38 ?_
    refine X_iret i_X5_patience_39 rfl ?_
    exact ⟨by simp [sPat, hsw], rfl⟩
  · refine X_tabIn i_X5_patience_1 ⟨by omega, by omega⟩ (by omega) (by omega) (off := 42) (by rw [hsw]; rfl) (tgt := 43) rfl ?_
    refine X_iconst i_X5_patience_43 ?_
    refine X_iret i_X5_patience_44 rfl ?_
    exact ⟨by simp [sPat, hsw], rfl⟩
  · refine X_tabIn i_X5_patience_1 ⟨by omega, by omega⟩ (by omega) (by omega) (off := 39) (by rw [hsw]; rfl) (tgt := 40) rfl ?_
    refine X_bipush i_X5_patience_40 (by decide +kernel) ?_
    refine X_iret i_X5_patience_42 rfl ?_
    exact ⟨by simp [sPat, hsw], rfl⟩
set_option maxRecDepth 100000 in
theorem c_X5_sip {k : Int} {M : zMem} (hk : 0 ≤ k ∧ k ≤ 5) : zCt kX5_sip 0 [.int (zii k)] M (zRet (.int (zii (sSip k))) M) := by
  refine zMet (by decide) (Nat.le_of_ble_eq_true rfl) ?_
  show zX kX5_sip 0 0 [some (.int (zii k))] [] _ _
  refine Y_iload_0 i_X5_sip_0 ?_
  rcases (by omega : k = 0 ∨ k = 1 ∨ k = 2 ∨ k = 3 ∨ k = 4 ∨ k = 5) with hsw | hsw | hsw | hsw | hsw | hsw
  · refine X_look i_X5_sip_1 (by decide) ⟨by omega, by omega⟩ (off := 31) (by rw [hsw]; decide) (tgt := 32) rfl ?_
    refine X_iconst i_X5_sip_32 ?_
    refine X_iret i_X5_sip_33 rfl ?_
    exact ⟨by simp [sSip, hsw], rfl⟩
  · refine X_look i_X5_sip_1 (by decide) ⟨by omega, by omega⟩ (off := 31) (by rw [hsw]; decide) (tgt := 32) rfl ?_
    refine X_iconst i_X5_sip_32 ?_
    refine X_iret i_X5_sip_33 rfl ?_
    exact ⟨by simp [sSip, hsw], rfl⟩
  · refine X_look i_X5_sip_1 (by decide) ⟨by omega, by omega⟩ (off := 31) (by rw [hsw]; decide) (tgt := 32) rfl ?_
    refine X_iconst i_X5_sip_32 ?_
    refine X_iret i_X5_sip_33 rfl ?_
    exact ⟨by simp [sSip, hsw], rfl⟩
  · refine X_look i_X5_sip_1 (by decide) ⟨by omega, by omega⟩ (off := 27) (by rw [hsw]; decide) (tgt := 28) rfl ?_
    refine X_iconst i_X5_sip_28 ?_
    refine X_iret i_X5_sip_29 rfl ?_
    exact ⟨by simp [sSip, hsw], rfl⟩
  · refine X_look i_X5_sip_1 (by decide) ⟨by omega, by omega⟩ (off := 29) (by rw [hsw]; decide) (tgt := 30) rfl ?_
    refine X_iconst i_X5_sip_30 ?_
    refine X_iret i_X5_sip_31 rfl ?_
    exact ⟨by simp [sSip, hsw], rfl⟩
  · refine X_look i_X5_sip_1 (by decide) ⟨by omega, by omega⟩ (off := 31) (by rw [hsw]; decide) (tgt := 32) rfl ?_
    refine X_iconst i_X5_sip_32 ?_
    refine X_iret i_X5_sip_33 rfl ?_
    exact ⟨by simp [sSip, hsw], rfl⟩
set_option maxRecDepth 100000 in
theorem c_X5_enough {k f : Int} {M : zMem} (hk : 0 ≤ k ∧ k ≤ 5) (hf : 0 ≤ f ∧ f ≤ 9) : zCt kX5_enough 0 [.int (zii k), .int (zii f)] M (zRet (.int (zii (sEno k f))) M) := by
  have hd : zdiv f 3 = f / 3 := zdiv_pos ⟨by omega, by omega⟩ (by omega) ⟨by omega, by omega⟩ (by omega)
  refine zMet (by decide) (Nat.le_of_ble_eq_true rfl) ?_
  show zX kX5_enough 0 0 [some (.int (zii k)), some (.int (zii f))] [] _ _
  refine Y_iload_0 i_X5_enough_0 ?_
  rcases (by omega : k = 0 ∨ k = 1 ∨ k = 2 ∨ k = 3 ∨ k = 4 ∨ k = 5) with hsw | hsw | hsw | hsw | hsw | hsw
  · refine X_look i_X5_enough_1 (by decide) ⟨by omega, by omega⟩ (off := 39) (by rw [hsw]; decide) (tgt := 40) rfl ?_
    refine X_iconst i_X5_enough_40 ?_
    refine X_iret i_X5_enough_41 rfl ?_
    exact ⟨by simp [sEno, hsw, hd], rfl⟩
  · refine X_look i_X5_enough_1 (by decide) ⟨by omega, by omega⟩ (off := 27) (by rw [hsw]; decide) (tgt := 28) rfl ?_
    refine X_iconst i_X5_enough_28 ?_
    refine Y_iload_1 i_X5_enough_29 ?_
    refine X_iconst i_X5_enough_30 ?_
    refine X_idiv i_X5_enough_31 ⟨by omega, by omega⟩ (by omega) ?_
    refine X_iadd i_X5_enough_32 ?_
    refine X_iret i_X5_enough_33 rfl ?_
    exact ⟨by simp [sEno, hsw, hd], rfl⟩
  · refine X_look i_X5_enough_1 (by decide) ⟨by omega, by omega⟩ (off := 39) (by rw [hsw]; decide) (tgt := 40) rfl ?_
    refine X_iconst i_X5_enough_40 ?_
    refine X_iret i_X5_enough_41 rfl ?_
    exact ⟨by simp [sEno, hsw, hd], rfl⟩
  · refine X_look i_X5_enough_1 (by decide) ⟨by omega, by omega⟩ (off := 33) (by rw [hsw]; decide) (tgt := 34) rfl ?_
    refine X_iconst i_X5_enough_34 ?_
    refine Y_iload_1 i_X5_enough_35 ?_
    refine X_iconst i_X5_enough_36 ?_
    refine X_idiv i_X5_enough_37 ⟨by omega, by omega⟩ (by omega) ?_
    refine X_iadd i_X5_enough_38 ?_
    refine X_iret i_X5_enough_39 rfl ?_
    exact ⟨by simp [sEno, hsw, hd], rfl⟩
  · refine X_look i_X5_enough_1 (by decide) ⟨by omega, by omega⟩ (off := 39) (by rw [hsw]; decide) (tgt := 40) rfl ?_
    refine X_iconst i_X5_enough_40 ?_
    refine X_iret i_X5_enough_41 rfl ?_
    exact ⟨by simp [sEno, hsw, hd], rfl⟩
  · refine X_look i_X5_enough_1 (by decide) ⟨by omega, by omega⟩ (off := 39) (by rw [hsw]; decide) (tgt := 40) rfl ?_
    refine X_iconst i_X5_enough_40 ?_
    refine X_iret i_X5_enough_41 rfl ?_
    exact ⟨by simp [sEno, hsw, hd], rfl⟩
theorem zri {a b : Int} {M : zMem} (h : a = b) : zRet (.int (zii b)) M (some (.int (zii a))) M := ⟨by rw [h], rfl⟩
theorem zrl {a b : Int} {M : zMem} (h : a = b) : zRet (.long (zll b)) M (some (.long (zll a))) M := ⟨by rw [h], rfl⟩
theorem zrv0 {M M' : zMem} (h : M' = M) : zVoid M none M' := ⟨rfl, h⟩
theorem X_mmax {k : zMD} {d pc nx idx : Nat} {lo : List (Option Value)} {st : List Value} {M : zMem} {Q : Option Value → zMem → Prop} {a b : Int} (hi : zI k pc (.invokestatic idx) 3 nx) (hl : Cond.methodLink k.1.cls idx kJ9_max_7cf53.1 ∈ zt) (hm : zMS kJ9_max_7cf53 2) (ha : zR a) (hb9 : zR b) (hd1 : Nat.ble 1 d = true) (hst : Nat.ble ((st.map fun v => v.category).sum) 8 = true) (h : zX k d nx lo (.int (zii (if b ≤ a then a else b)) :: st) M Q) : zX k d pc lo (.int (zii b) :: .int (zii a) :: st) M Q := by
  have hd1 := Nat.le_of_ble_eq_true hd1
  have hst := Nat.le_of_ble_eq_true hst
  intro ad dC dI cA p l e s m args below meth c H locs ls hC hP hS hL
  have kk := h ad dC dI cA p l e s m args below meth c H locs ls hC hP hS hL
  obtain ⟨hd, rfl⟩ := hi
  obtain ⟨hx, hb, hr, hml, hown, hts, hlk, hK, hinj, hnw⟩ := hC
  obtain ⟨⟨hcode, hini, -, -⟩, hstat⟩ := hm
  have hst' : ((st.map (zrv ad)).map fun v => v.category).sum ≤ 8 := by
    rw [List.map_map]
    have : ((fun v : Value => v.category) ∘ zrv ad) = fun v => v.category := funext fun v => zrv_cat ad v
    rw [this]; exact hst
  · refine va_mmax hx hb (hml.trans hL.1.symm) hown (hts _ hl) (hts _ hstat) (hts _ hini) (hts _ hcode) hd1 (by show _ ≤ 36 * d; omega) (Nat.zero_le _) (Nat.zero_le _) hd ?_
    have e9 : (if zii a < zii b then zii b else zii a) = zii (if b ≤ a then a else b) := by
      simp only [zii_lt ha hb9]
      by_cases q : b ≤ a
      · rw [if_neg (by omega), if_pos q]
      · rw [if_pos (by omega), if_neg q]
    rw [e9]
    exact kk
theorem X_mmin {k : zMD} {d pc nx idx : Nat} {lo : List (Option Value)} {st : List Value} {M : zMem} {Q : Option Value → zMem → Prop} {a b : Int} (hi : zI k pc (.invokestatic idx) 3 nx) (hl : Cond.methodLink k.1.cls idx kJ9_min_7cf53.1 ∈ zt) (hm : zMS kJ9_min_7cf53 2) (ha : zR a) (hb9 : zR b) (hd1 : Nat.ble 1 d = true) (hst : Nat.ble ((st.map fun v => v.category).sum) 8 = true) (h : zX k d nx lo (.int (zii (if a ≤ b then a else b)) :: st) M Q) : zX k d pc lo (.int (zii b) :: .int (zii a) :: st) M Q := by
  have hd1 := Nat.le_of_ble_eq_true hd1
  have hst := Nat.le_of_ble_eq_true hst
  intro ad dC dI cA p l e s m args below meth c H locs ls hC hP hS hL
  have kk := h ad dC dI cA p l e s m args below meth c H locs ls hC hP hS hL
  obtain ⟨hd, rfl⟩ := hi
  obtain ⟨hx, hb, hr, hml, hown, hts, hlk, hK, hinj, hnw⟩ := hC
  obtain ⟨⟨hcode, hini, -, -⟩, hstat⟩ := hm
  have hst' : ((st.map (zrv ad)).map fun v => v.category).sum ≤ 8 := by
    rw [List.map_map]
    have : ((fun v : Value => v.category) ∘ zrv ad) = fun v => v.category := funext fun v => zrv_cat ad v
    rw [this]; exact hst
  · refine va_mmin hx hb (hml.trans hL.1.symm) hown (hts _ hl) (hts _ hstat) (hts _ hini) (hts _ hcode) hd1 (by show _ ≤ 36 * d; omega) (Nat.zero_le _) (Nat.zero_le _) hd ?_
    have e9 : (if zii b < zii a then zii b else zii a) = zii (if a ≤ b then a else b) := by
      simp only [zii_lt hb9 ha]
      by_cases q : a ≤ b
      · rw [if_neg (by omega), if_pos q]
      · rw [if_pos (by omega), if_neg q]
    first | rw [e9] | skip
    exact kk
theorem lm_X6_13 : Cond.methodLink RX6 13 yJ9_max_7cf53 ∈ zt := zt_in 164 (by decide +kernel)
theorem lm_X0_96 : Cond.methodLink RX0 96 yJ9_min_7cf53 ∈ zt := zt_in 400 (by decide +kernel)
theorem lm_X0_101 : Cond.methodLink RX0 101 yJ9_max_7cf53 ∈ zt := zt_in 413 (by decide +kernel)
theorem lm_X1_46 : Cond.methodLink RX1 46 yJ9_min_7cf53 ∈ zt := zt_in 460 (by decide +kernel)
theorem lm_X2_28 : Cond.methodLink RX2 28 yJ9_max_7cf53 ∈ zt := zt_in 593 (by decide +kernel)
theorem lm_X7_84 : Cond.methodLink RX7 84 yJ9_max_7cf53 ∈ zt := zt_in 861 (by decide +kernel)
set_option maxRecDepth 100000 in
theorem c_X0_has {i : Nat} (hi : i < 3) {M : zMem} {A : zAft} (e : M i = A) {b : Int} (hA : zH b A) {g : Int} (hg : zR g) : zCt kX0_has 0 [.ref (7 * i), .int (zii g)] M (zRet (.int (zii (if 0 ≤ g ∧ g < A 6 0 then 1 else 0))) M) := by
  subst e
  have h6 := hA.1
  have hg1 := hg.1
  have hg2 := hg.2
  refine zMet (by decide) (Nat.le_of_ble_eq_true rfl) ?_
  show zX kX0_has 0 0 [some (.ref (7 * i)), some (.int (zii g))] [] _ _
  refine Y_iload_1 i_X0_has_0 ?_
  refine X_if_lt i_X0_has_1 (tgt := 16) rfl ⟨by omega, by omega⟩ (fun h1 => ?_) (fun h1 => ?_)
  · refine X_iconst i_X0_has_16 ?_
    refine X_zret i_X0_has_17 rfl (by omega) ?_
    exact zri (by split <;> omega)
  · refine Y_iload_1 i_X0_has_4 ?_
    refine Y_aload_0 i_X0_has_5 ?_
    refine Y_getI i_X0_has_6 f_X0_30 (zaf_6 hi) rfl ?_
    refine X_icmp_ge i_X0_has_9 (tgt := 16) rfl ⟨by omega, by omega⟩ ⟨by omega, by omega⟩ (fun h9 => ?_) (fun h9 => ?_)
    · refine X_iconst i_X0_has_16 ?_
      refine X_zret i_X0_has_17 rfl (by omega) ?_
      exact zri (by split <;> omega)
    · refine X_iconst i_X0_has_12 ?_
      refine X_goto i_X0_has_13 (tgt := 17) rfl ?_
      refine X_zret i_X0_has_17 rfl (by omega) ?_
      exact zri (by split <;> omega)
set_option maxRecDepth 100000 in
theorem c_X0_howMany {i : Nat} (hi : i < 3) {M : zMem} {A : zAft} (e : M i = A) {b : Int} (hA : zOk b A) {s : Int} (hs : zR s) : zCt kX0_howMany 0 [.ref (7 * i), .int (zii s)] M (zRet (.int (zii (sMany A s))) M) := by
  subst e
  have h6 := hA.1.1
  have hG := sG_le hA.1
  have hs1 := hs.1
  have hs2 := hs.2
  refine zMet (by decide) (Nat.le_of_ble_eq_true rfl) ?_
  show zX kX0_howMany 0 0 [some (.ref (7 * i)), some (.int (zii s)), none, none] [] _ _
  have loop : ∀ (n : Nat) (g : Nat), g + n = sG (M i) → zX kX0_howMany 0 4 [some (.ref (7 * i)), some (.int (zii s)), some (.int (zii (sCnt (M i) s g))), some (.int (zii g))] [] M (zRet (.int (zii (sMany (M i) s))) M) := by
    intro n
    induction n with
    | zero =>
      intro g hg
      have hc := sCnt_in (M i) s g
      refine Y_iload_3 i_X0_howMany_4 ?_
      refine Y_aload_0 i_X0_howMany_5 ?_
      refine Y_getI i_X0_howMany_6 f_X0_30 (zaf_6 hi) rfl ?_
      refine X_icmp_ge i_X0_howMany_9 (tgt := 31) rfl ⟨by omega, by omega⟩ ⟨by omega, by omega⟩ (fun h9 => ?_) (fun h9 => by exfalso; omega)
      refine Y_iload_2 i_X0_howMany_31 ?_
      refine X_iret i_X0_howMany_32 rfl ?_
      exact ⟨by unfold sMany; rw [show g = sG (M i) by omega], rfl⟩
    | succ n ih =>
      intro g hg
      have hc := sCnt_in (M i) s g
      have hgg := hA.2 g (by omega) (by omega)
      unfold zG at hgg
      refine Y_iload_3 i_X0_howMany_4 ?_
      refine Y_aload_0 i_X0_howMany_5 ?_
      refine Y_getI i_X0_howMany_6 f_X0_30 (zaf_6 hi) rfl ?_
      refine X_icmp_ge i_X0_howMany_9 (tgt := 31) rfl ⟨by omega, by omega⟩ ⟨by omega, by omega⟩ (fun h9 => by exfalso; omega) (fun h9 => ?_)
      refine Y_aload_0 i_X0_howMany_12 ?_
      refine X_getR i_X0_howMany_13 f_X0_21 (zaf_3 hi) ?_
      refine Y_iload_3 i_X0_howMany_16 ?_
      refine Y_iald i_X0_howMany_17 (zaa_3 hi) ⟨by omega, by omega⟩ rfl rfl ?_
      refine Y_iload_1 i_X0_howMany_18 ?_
      refine Y_icmp_ne i_X0_howMany_19 (tgt := 25) rfl ⟨by omega, by omega⟩ ⟨by omega, by omega⟩ (fun h19 => ?_) (fun h19 => ?_)
      · refine Y_iinc_3 i_X0_howMany_25 rfl rfl ?_
        refine X_goto i_X0_howMany_28 (tgt := 4) rfl ?_
        exact X_eq (ih (g + 1) (by omega)) (by simp [sCnt, h19]) rfl rfl
      · refine Y_iinc_2 i_X0_howMany_22 rfl rfl ?_
        refine Y_iinc_3 i_X0_howMany_25 rfl rfl ?_
        refine X_goto i_X0_howMany_28 (tgt := 4) rfl ?_
        exact X_eq (ih (g + 1) (by omega)) (by simp [sCnt, h19]) rfl rfl
  refine X_iconst i_X0_howMany_0 ?_
  refine Y_istore_2 i_X0_howMany_1 rfl rfl ?_
  refine X_iconst i_X0_howMany_2 ?_
  refine Y_istore_3 i_X0_howMany_3 rfl rfl ?_
  exact loop (sG (M i)) 0 (by omega)
set_option maxRecDepth 100000 in
theorem c_X9_isOther {M : zMem} {a b : Int} (ha : zR a) (hb : zR b) : zCt kX9_isOther 0 [.int (zii a), .int (zii b)] M (zRet (.int (zii (if a < 0 ∨ b ≤ a then 1 else 0))) M) := by
  have ha1 := ha.1
  have ha2 := ha.2
  have hb1 := hb.1
  have hb2 := hb.2
  refine zMet (by decide) (Nat.le_of_ble_eq_true rfl) ?_
  show zX kX9_isOther 0 0 [some (.int (zii a)), some (.int (zii b))] [] _ _
  refine Y_iload_0 i_X9_isOther_0 ?_
  refine X_if_lt i_X9_isOther_1 (tgt := 9) rfl ⟨by omega, by omega⟩ (fun h1 => ?_) (fun h1 => ?_)
  · refine X_iconst i_X9_isOther_9 ?_
    refine X_goto i_X9_isOther_10 (tgt := 14) rfl ?_
    refine X_zret i_X9_isOther_14 rfl (by omega) ?_
    exact zri (by split <;> omega)
  · refine Y_iload_0 i_X9_isOther_4 ?_
    refine Y_iload_1 i_X9_isOther_5 ?_
    refine X_icmp_lt i_X9_isOther_6 (tgt := 13) rfl ⟨by omega, by omega⟩ ⟨by omega, by omega⟩ (fun h6 => ?_) (fun h6 => ?_)
    · refine X_iconst i_X9_isOther_13 ?_
      refine X_zret i_X9_isOther_14 rfl (by omega) ?_
      exact zri (by split <;> omega)
    · refine X_iconst i_X9_isOther_9 ?_
      refine X_goto i_X9_isOther_10 (tgt := 14) rfl ?_
      refine X_zret i_X9_isOther_14 rfl (by omega) ?_
      exact zri (by split <;> omega)
set_option maxRecDepth 100000 in
theorem c_X0_areTwo {i : Nat} (hi : i < 3) {M : zMem} {A : zAft} (e : M i = A) {b : Int} (hA : zH b A) {x y : Int} (hx : zR x) (hy : zR y) : zCt kX0_areTwo 1 [.ref (7 * i), .int (zii x), .int (zii y)] M (zRet (.int (zii (if (0 ≤ x ∧ x < A 6 0) ∧ (0 ≤ y ∧ y < A 6 0) ∧ x ≠ y then 1 else 0))) M) := by
  subst e
  have h6 := hA.1
  have hx1 := hx.1
  have hx2 := hx.2
  have hy1 := hy.1
  have hy2 := hy.2
  refine zMet (by decide) (Nat.le_of_ble_eq_true rfl) ?_
  show zX kX0_areTwo 1 0 [some (.ref (7 * i)), some (.int (zii x)), some (.int (zii y))] [] _ _
  refine Y_aload_0 i_X0_areTwo_0 ?_
  refine Y_iload_1 i_X0_areTwo_1 ?_
  refine Y_callV (k' := kX0_has) i_X0_areTwo_2 l_X0_52 m_X0_has (c_X0_has hi rfl hA hx) (zao hi) rfl rfl rfl rfl ?_
  refine Y_ifq_eq i_X0_areTwo_5 (tgt := 25) rfl  (fun h5 => ?_) (fun h5 => ?_)
  · refine X_iconst i_X0_areTwo_25 ?_
    refine X_zret i_X0_areTwo_26 rfl (by omega) ?_
    exact zri (by split <;> omega)
  · refine Y_aload_0 i_X0_areTwo_8 ?_
    refine Y_iload_2 i_X0_areTwo_9 ?_
    refine Y_callV (k' := kX0_has) i_X0_areTwo_10 l_X0_52 m_X0_has (c_X0_has hi rfl hA hy) (zao hi) rfl rfl rfl rfl ?_
    refine Y_ifq_eq i_X0_areTwo_13 (tgt := 25) rfl  (fun h13 => ?_) (fun h13 => ?_)
    · refine X_iconst i_X0_areTwo_25 ?_
      refine X_zret i_X0_areTwo_26 rfl (by omega) ?_
      exact zri (by split <;> omega)
    · refine Y_iload_1 i_X0_areTwo_16 ?_
      refine Y_iload_2 i_X0_areTwo_17 ?_
      refine X_icmp_eq i_X0_areTwo_18 (tgt := 25) rfl ⟨by omega, by omega⟩ ⟨by omega, by omega⟩ (fun h18 => ?_) (fun h18 => ?_)
      · refine X_iconst i_X0_areTwo_25 ?_
        refine X_zret i_X0_areTwo_26 rfl (by omega) ?_
        exact zri (by split <;> omega)
      · refine X_iconst i_X0_areTwo_21 ?_
        refine X_goto i_X0_areTwo_22 (tgt := 26) rfl ?_
        refine X_zret i_X0_areTwo_26 rfl (by omega) ?_
        exact zri (by split <;> omega)
set_option maxRecDepth 100000 in
theorem c_X0_whyNotCome {i : Nat} (hi : i < 3) {M : zMem} {A : zAft} (e : M i = A) {b : Int} (hA : zH b A) {x y z : Int} (hx : zR x) (hy : zR y) (hz : zR z) : zCt kX0_whyNotCome 1 [.ref (7 * i), .int (zii x), .int (zii y), .int (zii z)] M (zRet (.int (zii (if x < 0 ∨ 6 ≤ x then -2 else if y < 0 ∨ z < 0 then -4 else if 9 < y ∨ 30 < z then -6 else if 6 ≤ A 6 0 then -6 else 0))) M) := by
  subst e
  have h6 := hA.1
  have hx1 := hx.1
  have hx2 := hx.2
  have hy1 := hy.1
  have hy2 := hy.2
  have hz1 := hz.1
  have hz2 := hz.2
  refine zMet (by decide) (Nat.le_of_ble_eq_true rfl) ?_
  show zX kX0_whyNotCome 1 0 [some (.ref (7 * i)), some (.int (zii x)), some (.int (zii y)), some (.int (zii z))] [] _ _
  refine Y_iload_1 i_X0_whyNotCome_0 ?_
  refine X_bipush i_X0_whyNotCome_1 (by decide +kernel) ?_
  refine Y_callS (k' := kX9_isOther) i_X0_whyNotCome_3 l_X0_56 m_X9_isOther (c_X9_isOther (by assumption) (zR_lit rfl)) rfl rfl rfl rfl ?_
  refine Y_ifq_eq i_X0_whyNotCome_6 (tgt := 12) rfl  (fun h6 => ?_) (fun h6 => ?_)
  · refine Y_iload_2 i_X0_whyNotCome_12 ?_
    refine X_if_lt i_X0_whyNotCome_13 (tgt := 20) rfl ⟨by omega, by omega⟩ (fun h13 => ?_) (fun h13 => ?_)
    · refine X_bipush i_X0_whyNotCome_20 (by decide +kernel) ?_
      refine X_iret i_X0_whyNotCome_22 rfl ?_
      exact zri (by repeat (first | omega | split))
    · refine Y_iload_3 i_X0_whyNotCome_16 ?_
      refine X_if_ge i_X0_whyNotCome_17 (tgt := 23) rfl ⟨by omega, by omega⟩ (fun h17 => ?_) (fun h17 => ?_)
      · refine Y_iload_2 i_X0_whyNotCome_23 ?_
        refine X_bipush i_X0_whyNotCome_24 (by decide +kernel) ?_
        refine X_icmp_gt i_X0_whyNotCome_26 (tgt := 35) rfl ⟨by omega, by omega⟩ ⟨by omega, by omega⟩ (fun h26 => ?_) (fun h26 => ?_)
        · refine X_bipush i_X0_whyNotCome_35 (by decide +kernel) ?_
          refine X_iret i_X0_whyNotCome_37 rfl ?_
          exact zri (by repeat (first | omega | split))
        · refine Y_iload_3 i_X0_whyNotCome_29 ?_
          refine X_bipush i_X0_whyNotCome_30 (by decide +kernel) ?_
          refine X_icmp_le i_X0_whyNotCome_32 (tgt := 38) rfl ⟨by omega, by omega⟩ ⟨by omega, by omega⟩ (fun h32 => ?_) (fun h32 => ?_)
          · refine Y_aload_0 i_X0_whyNotCome_38 ?_
            refine Y_getI i_X0_whyNotCome_39 f_X0_30 (zaf_6 hi) rfl ?_
            refine X_bipush i_X0_whyNotCome_42 (by decide +kernel) ?_
            refine X_icmp_lt i_X0_whyNotCome_44 (tgt := 52) rfl ⟨by omega, by omega⟩ ⟨by omega, by omega⟩ (fun h44 => ?_) (fun h44 => ?_)
            · refine X_iconst i_X0_whyNotCome_52 ?_
              refine X_iret i_X0_whyNotCome_53 rfl ?_
              exact zri (by repeat (first | omega | split))
            · refine X_bipush i_X0_whyNotCome_47 (by decide +kernel) ?_
              refine X_goto i_X0_whyNotCome_49 (tgt := 53) rfl ?_
              refine X_iret i_X0_whyNotCome_53 rfl ?_
              exact zri (by repeat (first | omega | split))
          · refine X_bipush i_X0_whyNotCome_35 (by decide +kernel) ?_
            refine X_iret i_X0_whyNotCome_37 rfl ?_
            exact zri (by repeat (first | omega | split))
      · refine X_bipush i_X0_whyNotCome_20 (by decide +kernel) ?_
        refine X_iret i_X0_whyNotCome_22 rfl ?_
        exact zri (by repeat (first | omega | split))
  · refine X_bipush i_X0_whyNotCome_9 (by decide +kernel) ?_
    refine X_iret i_X0_whyNotCome_11 rfl ?_
    exact zri (by repeat (first | omega | split))
set_option maxRecDepth 100000 in
theorem c_X0_whyNotRise {i : Nat} (hi : i < 3) {M : zMem} {A : zAft} (e : M i = A) {b : Int} (hA : zOk b A) {x : Int} (hx : zR x) : zCt kX0_whyNotRise 1 [.ref (7 * i), .int (zii x)] M (zRet (.int (zii (if ¬ (0 ≤ x ∧ x < A 6 0) then -1 else if A 3 x = 0 then 0 else -3))) M) := by
  subst e
  have h6 := hA.1.1
  have hx1 := hx.1
  have hx2 := hx.2
  refine zMet (by decide) (Nat.le_of_ble_eq_true rfl) ?_
  show zX kX0_whyNotRise 1 0 [some (.ref (7 * i)), some (.int (zii x))] [] _ _
  refine Y_aload_0 i_X0_whyNotRise_0 ?_
  refine Y_iload_1 i_X0_whyNotRise_1 ?_
  refine Y_callV (k' := kX0_has) i_X0_whyNotRise_2 l_X0_52 m_X0_has (c_X0_has hi rfl hA.1 hx) (zao hi) rfl rfl rfl rfl ?_
  refine Y_ifq_ne i_X0_whyNotRise_5 (tgt := 10) rfl  (fun h5 => ?_) (fun h5 => ?_)
  · refine Y_aload_0 i_X0_whyNotRise_10 ?_
    refine X_getR i_X0_whyNotRise_11 f_X0_21 (zaf_3 hi) ?_
    refine Y_iload_1 i_X0_whyNotRise_14 ?_
    have hgg := hA.2 x (by omega) (by omega)
    unfold zG at hgg
    refine Y_iald i_X0_whyNotRise_15 (zaa_3 hi) ⟨by omega, by omega⟩ rfl rfl ?_
    refine Y_if_ne i_X0_whyNotRise_16 (tgt := 23) rfl ⟨by omega, by omega⟩ (fun h16 => ?_) (fun h16 => ?_)
    · refine X_bipush i_X0_whyNotRise_23 (by decide +kernel) ?_
      refine X_iret i_X0_whyNotRise_25 rfl ?_
      exact zri (by repeat (first | omega | split))
    · refine X_iconst i_X0_whyNotRise_19 ?_
      refine X_goto i_X0_whyNotRise_20 (tgt := 25) rfl ?_
      refine X_iret i_X0_whyNotRise_25 rfl ?_
      exact zri (by repeat (first | omega | split))
  · refine X_iconst i_X0_whyNotRise_8 ?_
    refine X_iret i_X0_whyNotRise_9 rfl ?_
    exact zri (by repeat (first | omega | split))
set_option maxRecDepth 100000 in
theorem c_X0_whyNotSlip {i : Nat} (hi : i < 3) {M : zMem} {A : zAft} (e : M i = A) {b : Int} (hA : zOk b A) {x : Int} (hx : zR x) : zCt kX0_whyNotSlip 1 [.ref (7 * i), .int (zii x)] M (zRet (.int (zii (if ¬ (0 ≤ x ∧ x < A 6 0) then -1 else if A 3 x = 0 ∨ A 3 x = 1 then 0 else -3))) M) := by
  subst e
  have h6 := hA.1.1
  have hx1 := hx.1
  have hx2 := hx.2
  refine zMet (by decide) (Nat.le_of_ble_eq_true rfl) ?_
  show zX kX0_whyNotSlip 1 0 [some (.ref (7 * i)), some (.int (zii x))] [] _ _
  refine Y_aload_0 i_X0_whyNotSlip_0 ?_
  refine Y_iload_1 i_X0_whyNotSlip_1 ?_
  refine Y_callV (k' := kX0_has) i_X0_whyNotSlip_2 l_X0_52 m_X0_has (c_X0_has hi rfl hA.1 hx) (zao hi) rfl rfl rfl rfl ?_
  refine Y_ifq_ne i_X0_whyNotSlip_5 (tgt := 10) rfl  (fun h5 => ?_) (fun h5 => ?_)
  · refine Y_aload_0 i_X0_whyNotSlip_10 ?_
    refine X_getR i_X0_whyNotSlip_11 f_X0_21 (zaf_3 hi) ?_
    refine Y_iload_1 i_X0_whyNotSlip_14 ?_
    have hgg := hA.2 x (by omega) (by omega)
    unfold zG at hgg
    refine Y_iald i_X0_whyNotSlip_15 (zaa_3 hi) ⟨by omega, by omega⟩ rfl rfl ?_
    refine X_if_eq i_X0_whyNotSlip_16 (tgt := 29) rfl ⟨by omega, by omega⟩ (fun h16 => ?_) (fun h16 => ?_)
    · refine X_iconst i_X0_whyNotSlip_29 ?_
      refine X_goto i_X0_whyNotSlip_30 (tgt := 35) rfl ?_
      refine X_iret i_X0_whyNotSlip_35 rfl ?_
      exact zri (by repeat (first | omega | split))
    · refine Y_aload_0 i_X0_whyNotSlip_19 ?_
      refine X_getR i_X0_whyNotSlip_20 f_X0_21 (zaf_3 hi) ?_
      refine Y_iload_1 i_X0_whyNotSlip_23 ?_
      refine Y_iald i_X0_whyNotSlip_24 (zaa_3 hi) ⟨by omega, by omega⟩ rfl rfl ?_
      refine X_iconst i_X0_whyNotSlip_25 ?_
      refine Y_icmp_ne i_X0_whyNotSlip_26 (tgt := 33) rfl ⟨by omega, by omega⟩ ⟨by omega, by omega⟩ (fun h26 => ?_) (fun h26 => ?_)
      · refine X_bipush i_X0_whyNotSlip_33 (by decide +kernel) ?_
        refine X_iret i_X0_whyNotSlip_35 rfl ?_
        exact zri (by repeat (first | omega | split))
      · refine X_iconst i_X0_whyNotSlip_29 ?_
        refine X_goto i_X0_whyNotSlip_30 (tgt := 35) rfl ?_
        refine X_iret i_X0_whyNotSlip_35 rfl ?_
        exact zri (by repeat (first | omega | split))
  · refine X_iconst i_X0_whyNotSlip_8 ?_
    refine X_iret i_X0_whyNotSlip_9 rfl ?_
    exact zri (by repeat (first | omega | split))
set_option maxRecDepth 100000 in
theorem c_X0_whyNotCups {i : Nat} (hi : i < 3) {M : zMem} {A : zAft} (e : M i = A) {b : Int} (hA : zOk b A) {x : Int} (hx : zR x) : zCt kX0_whyNotCups 1 [.ref (7 * i), .int (zii x)] M (zRet (.int (zii (if x < 1 then -4 else if 5 < x then -6 else if x < sMany A 2 then -3 else 0))) M) := by
  subst e
  have h6 := hA.1.1
  have hc := sCnt_in (M i) 2 (sG (M i))
  have hG := sG_le hA.1
  have hm : sMany (M i) 2 = sCnt (M i) 2 (sG (M i)) := rfl
  have hx1 := hx.1
  have hx2 := hx.2
  refine zMet (by decide) (Nat.le_of_ble_eq_true rfl) ?_
  show zX kX0_whyNotCups 1 0 [some (.ref (7 * i)), some (.int (zii x))] [] _ _
  refine Y_iload_1 i_X0_whyNotCups_0 ?_
  refine X_iconst i_X0_whyNotCups_1 ?_
  refine X_icmp_ge i_X0_whyNotCups_2 (tgt := 8) rfl ⟨by omega, by omega⟩ ⟨by omega, by omega⟩ (fun h2 => ?_) (fun h2 => ?_)
  · refine Y_iload_1 i_X0_whyNotCups_8 ?_
    refine X_iconst i_X0_whyNotCups_9 ?_
    refine X_icmp_le i_X0_whyNotCups_10 (tgt := 16) rfl ⟨by omega, by omega⟩ ⟨by omega, by omega⟩ (fun h10 => ?_) (fun h10 => ?_)
    · refine Y_aload_0 i_X0_whyNotCups_16 ?_
      refine X_iconst i_X0_whyNotCups_17 ?_
      refine Y_callV (k' := kX0_howMany) i_X0_whyNotCups_18 l_X0_60 m_X0_howMany (c_X0_howMany hi rfl hA (zR_lit rfl)) (zao hi) rfl rfl rfl rfl ?_
      refine Y_iload_1 i_X0_whyNotCups_21 ?_
      refine X_icmp_le i_X0_whyNotCups_22 (tgt := 30) rfl ⟨by omega, by omega⟩ ⟨by omega, by omega⟩ (fun h22 => ?_) (fun h22 => ?_)
      · refine X_iconst i_X0_whyNotCups_30 ?_
        refine X_iret i_X0_whyNotCups_31 rfl ?_
        exact zri (by repeat (first | omega | split))
      · refine X_bipush i_X0_whyNotCups_25 (by decide +kernel) ?_
        refine X_goto i_X0_whyNotCups_27 (tgt := 31) rfl ?_
        refine X_iret i_X0_whyNotCups_31 rfl ?_
        exact zri (by repeat (first | omega | split))
    · refine X_bipush i_X0_whyNotCups_13 (by decide +kernel) ?_
      refine X_iret i_X0_whyNotCups_15 rfl ?_
      exact zri (by repeat (first | omega | split))
  · refine X_bipush i_X0_whyNotCups_5 (by decide +kernel) ?_
    refine X_iret i_X0_whyNotCups_7 rfl ?_
    exact zri (by repeat (first | omega | split))
set_option maxRecDepth 100000 in
theorem c_X0_whyNotPass {i : Nat} (hi : i < 3) {M : zMem} {A : zAft} (e : M i = A) {b : Int} (hb : b ≤ 100000) (hA : zOk b A) {x : Int} (hx : zR x) : zCt kX0_whyNotPass 0 [.ref (7 * i), .int (zii x)] M (zRet (.int (zii (if x < 1 then -4 else if 60 < x ∨ 999 - x < A 6 3 then -6 else 0))) M) := by
  subst e
  have h6 := hA.1
  unfold zH at h6
  have hx1 := hx.1
  have hx2 := hx.2
  refine zMet (by decide) (Nat.le_of_ble_eq_true rfl) ?_
  show zX kX0_whyNotPass 0 0 [some (.ref (7 * i)), some (.int (zii x))] [] _ _
  refine Y_iload_1 i_X0_whyNotPass_0 ?_
  refine X_iconst i_X0_whyNotPass_1 ?_
  refine X_icmp_ge i_X0_whyNotPass_2 (tgt := 8) rfl ⟨by omega, by omega⟩ ⟨by omega, by omega⟩ (fun h2 => ?_) (fun h2 => ?_)
  · refine Y_iload_1 i_X0_whyNotPass_8 ?_
    refine X_bipush i_X0_whyNotPass_9 (by decide +kernel) ?_
    refine X_icmp_gt i_X0_whyNotPass_11 (tgt := 26) rfl ⟨by omega, by omega⟩ ⟨by omega, by omega⟩ (fun h11 => ?_) (fun h11 => ?_)
    · refine X_bipush i_X0_whyNotPass_26 (by decide +kernel) ?_
      refine X_goto i_X0_whyNotPass_28 (tgt := 32) rfl ?_
      refine X_iret i_X0_whyNotPass_32 rfl ?_
      exact zri (by repeat (first | omega | split))
    · refine Y_aload_0 i_X0_whyNotPass_14 ?_
      refine Y_getI i_X0_whyNotPass_15 f_X0_40 (zaf_9 hi) rfl ?_
      refine X_sipush i_X0_whyNotPass_18 (by decide +kernel) ?_
      refine Y_iload_1 i_X0_whyNotPass_21 ?_
      refine X_isub i_X0_whyNotPass_22 ?_
      refine X_icmp_le i_X0_whyNotPass_23 (tgt := 31) rfl ⟨by omega, by omega⟩ ⟨by omega, by omega⟩ (fun h23 => ?_) (fun h23 => ?_)
      · refine X_iconst i_X0_whyNotPass_31 ?_
        refine X_iret i_X0_whyNotPass_32 rfl ?_
        exact zri (by repeat (first | omega | split))
      · refine X_bipush i_X0_whyNotPass_26 (by decide +kernel) ?_
        refine X_goto i_X0_whyNotPass_28 (tgt := 32) rfl ?_
        refine X_iret i_X0_whyNotPass_32 rfl ?_
        exact zri (by repeat (first | omega | split))
  · refine X_bipush i_X0_whyNotPass_5 (by decide +kernel) ?_
    refine X_iret i_X0_whyNotPass_7 rfl ?_
    exact zri (by repeat (first | omega | split))
set_option maxRecDepth 100000 in
theorem c_X0_isAhead {i : Nat} (hi : i < 3) {M : zMem} {A : zAft} (e : M i = A) {b : Int} (hA : zOk b A) {x y : Int} (x0 : 0 ≤ x) (x1 : x < 6) (y0 : 0 ≤ y) (y1 : y < 6) : zCt kX0_isAhead 0 [.ref (7 * i), .int (zii x), .int (zii y)] M (zRet (.int (zii (if sAh A x y = true then 1 else 0))) M) := by
  subst e
  have h6 := hA.1
  unfold zH at h6
  have hg1 := hA.2 x x0 x1
  have hg2 := hA.2 y y0 y1
  unfold zG at hg1 hg2
  refine zMet (by decide) (Nat.le_of_ble_eq_true rfl) ?_
  show zX kX0_isAhead 0 0 [some (.ref (7 * i)), some (.int (zii x)), some (.int (zii y))] [] _ _
  refine Y_aload_0 i_X0_isAhead_0 ?_
  refine Y_getI i_X0_isAhead_1 f_X0_37 (zaf_8 hi) rfl ?_
  rcases (by omega : M i 6 2 = 0 ∨ M i 6 2 = 1 ∨ M i 6 2 = 2 ∨ M i 6 2 = 3) with hsw | hsw | hsw | hsw
  · refine X_tabIn i_X0_isAhead_4 ⟨by omega, by omega⟩ (by omega) (by omega) (off := 32) (by rw [hsw]; rfl) (tgt := 36) rfl ?_
    refine Y_aload_0 i_X0_isAhead_36 ?_
    refine X_getR i_X0_isAhead_37 f_X0_24 (zaf_4 hi) ?_
    refine Y_iload_1 i_X0_isAhead_40 ?_
    refine Y_iald i_X0_isAhead_41 (zaa_4 hi) ⟨by omega, by omega⟩ rfl rfl ?_
    refine Y_aload_0 i_X0_isAhead_42 ?_
    refine X_getR i_X0_isAhead_43 f_X0_24 (zaf_4 hi) ?_
    refine Y_iload_2 i_X0_isAhead_46 ?_
    refine Y_iald i_X0_isAhead_47 (zaa_4 hi) ⟨by omega, by omega⟩ rfl rfl ?_
    refine X_icmp_le i_X0_isAhead_48 (tgt := 55) rfl ⟨by omega, by omega⟩ ⟨by omega, by omega⟩ (fun h48 => ?_) (fun h48 => ?_)
    · refine X_iconst i_X0_isAhead_55 ?_
      refine X_zret i_X0_isAhead_56 rfl (by omega) ?_
      exact zri (by simp [sAh, hsw]; omega)
    · refine X_iconst i_X0_isAhead_51 ?_
      refine X_goto i_X0_isAhead_52 (tgt := 56) rfl ?_
      refine X_zret i_X0_isAhead_56 rfl (by omega) ?_
      exact zri (by simp [sAh, hsw]; omega)
  · refine X_tabIn i_X0_isAhead_4 ⟨by omega, by omega⟩ (by omega) (by omega) (off := 53) (by rw [hsw]; rfl) (tgt := 57) rfl ?_
    refine Y_aload_0 i_X0_isAhead_57 ?_
    refine X_getR i_X0_isAhead_58 f_X0_18 (zaf_2 hi) ?_
    refine Y_iload_1 i_X0_isAhead_61 ?_
    refine Y_iald i_X0_isAhead_62 (zaa_2 hi) ⟨by omega, by omega⟩ rfl rfl ?_
    refine Y_aload_0 i_X0_isAhead_63 ?_
    refine X_getR i_X0_isAhead_64 f_X0_18 (zaf_2 hi) ?_
    refine Y_iload_2 i_X0_isAhead_67 ?_
    refine Y_iald i_X0_isAhead_68 (zaa_2 hi) ⟨by omega, by omega⟩ rfl rfl ?_
    refine X_icmp_le i_X0_isAhead_69 (tgt := 76) rfl ⟨by omega, by omega⟩ ⟨by omega, by omega⟩ (fun h69 => ?_) (fun h69 => ?_)
    · refine X_iconst i_X0_isAhead_76 ?_
      refine X_zret i_X0_isAhead_77 rfl (by omega) ?_
      exact zri (by simp [sAh, hsw]; omega)
    · refine X_iconst i_X0_isAhead_72 ?_
      refine X_goto i_X0_isAhead_73 (tgt := 77) rfl ?_
      refine X_zret i_X0_isAhead_77 rfl (by omega) ?_
      exact zri (by simp [sAh, hsw]; omega)
  · refine X_tabIn i_X0_isAhead_4 ⟨by omega, by omega⟩ (by omega) (by omega) (off := 76) (by rw [hsw]; rfl) (tgt := 80) rfl ?_
    refine X_iconst i_X0_isAhead_80 ?_
    refine X_zret i_X0_isAhead_81 rfl (by omega) ?_
    exact zri (by simp [sAh, hsw])
  · refine X_tabIn i_X0_isAhead_4 ⟨by omega, by omega⟩ (by omega) (by omega) (off := 74) (by rw [hsw]; rfl) (tgt := 78) rfl ?_
    refine X_iconst i_X0_isAhead_78 ?_
    refine X_zret i_X0_isAhead_79 rfl (by omega) ?_
    exact zri (by simp [sAh, hsw])
set_option maxRecDepth 100000 in
theorem c_X0_rise {i : Nat} (hi : i < 3) {M : zMem} {A : zAft} {g : Int} (g0 : 0 ≤ g) (g1 : g < 6) : zCt kX0_rise 0 [.ref (7 * i), .int (zii g)] ((zs M i A)) (zVoid (zs M i (sRise A g))) := by
  refine zMet (by decide) (Nat.le_of_ble_eq_true rfl) ?_
  show zX kX0_rise 0 0 [some (.ref (7 * i)), some (.int (zii g))] [] _ _
  refine Y_aload_0 i_X0_rise_0 ?_
  refine X_getR i_X0_rise_1 f_X0_21 (zaf_3 hi) ?_
  refine Y_iload_1 i_X0_rise_4 ?_
  refine X_iconst i_X0_rise_5 ?_
  refine Y_iast i_X0_rise_6 (zaa_3 hi) ⟨by omega, by omega⟩ rfl (zp0 _ _ _ _ _ _) ?_
  refine Y_aload_0 i_X0_rise_7 ?_
  refine X_getR i_X0_rise_8 f_X0_24 (zaf_4 hi) ?_
  refine Y_iload_1 i_X0_rise_11 ?_
  refine X_iconst i_X0_rise_12 ?_
  refine Y_iast i_X0_rise_13 (zaa_4 hi) ⟨by omega, by omega⟩ rfl (zp0 _ _ _ _ _ _) ?_
  refine X_vret i_X0_rise_14 rfl ?_
  exact zrv0 rfl
set_option maxRecDepth 100000 in
theorem c_X0_come {i : Nat} (hi : i < 3) {M : zMem} {A : zAft} {b : Int} (hA : zH b A) (hr : A 6 0 < 6) {x y z : Int} : zCt kX0_come 0 [.ref (7 * i), .int (zii x), .int (zii y), .int (zii z)] ((zs M i A)) (zRet (.int (zii (A 6 0))) (zs M i (sCome A x y z))) := by
  have h6 := hA.1
  refine zMet (by decide) (Nat.le_of_ble_eq_true rfl) ?_
  show zX kX0_come 0 0 [some (.ref (7 * i)), some (.int (zii x)), some (.int (zii y)), some (.int (zii z)), none] [] _ _
  refine Y_aload_0 i_X0_come_0 ?_
  refine Y_getI i_X0_come_1 f_X0_30 (zaf_6 hi) (zg0 _ _ _ _ _) ?_
  refine Y_istore_4 i_X0_come_4 rfl rfl ?_
  refine Y_aload_0 i_X0_come_6 ?_
  refine X_getR i_X0_come_7 f_X0_9 (zaf_0 hi) ?_
  refine Y_iload_4 i_X0_come_10 ?_
  refine Y_iload_1 i_X0_come_12 ?_
  refine Y_iast i_X0_come_13 (zaa_0 hi) ⟨by omega, by omega⟩ rfl (zp0 _ _ _ _ _ _) ?_
  refine Y_aload_0 i_X0_come_14 ?_
  refine X_getR i_X0_come_15 f_X0_15 (zaf_1 hi) ?_
  refine Y_iload_4 i_X0_come_18 ?_
  refine Y_iload_2 i_X0_come_20 ?_
  refine Y_iast i_X0_come_21 (zaa_1 hi) ⟨by omega, by omega⟩ rfl (zp0 _ _ _ _ _ _) ?_
  refine Y_aload_0 i_X0_come_22 ?_
  refine X_getR i_X0_come_23 f_X0_18 (zaf_2 hi) ?_
  refine Y_iload_4 i_X0_come_26 ?_
  refine Y_iload_3 i_X0_come_28 ?_
  refine Y_iast i_X0_come_29 (zaa_2 hi) ⟨by omega, by omega⟩ rfl (zp0 _ _ _ _ _ _) ?_
  refine Y_aload_0 i_X0_come_30 ?_
  refine X_getR i_X0_come_31 f_X0_21 (zaf_3 hi) ?_
  refine Y_iload_4 i_X0_come_34 ?_
  refine X_iconst i_X0_come_36 ?_
  refine Y_iast i_X0_come_37 (zaa_3 hi) ⟨by omega, by omega⟩ rfl (zp0 _ _ _ _ _ _) ?_
  refine Y_aload_0 i_X0_come_38 ?_
  refine X_getR i_X0_come_39 f_X0_24 (zaf_4 hi) ?_
  refine Y_iload_4 i_X0_come_42 ?_
  refine X_iconst i_X0_come_44 ?_
  refine Y_iast i_X0_come_45 (zaa_4 hi) ⟨by omega, by omega⟩ rfl (zp0 _ _ _ _ _ _) ?_
  refine Y_aload_0 i_X0_come_46 ?_
  refine X_getR i_X0_come_47 f_X0_27 (zaf_5 hi) ?_
  refine Y_iload_4 i_X0_come_50 ?_
  refine X_iconst i_X0_come_52 ?_
  refine Y_iast i_X0_come_53 (zaa_5 hi) ⟨by omega, by omega⟩ rfl (zp0 _ _ _ _ _ _) ?_
  refine Y_aload_0 i_X0_come_54 ?_
  refine X_dup i_X0_come_55 rfl ?_
  refine Y_getI i_X0_come_56 f_X0_30 (zaf_6 hi) (zga (zr1 rfl (zr1 rfl (zr1 rfl (zr1 rfl (zr1 rfl (zr1 rfl rfl))))))) ?_
  refine X_iconst i_X0_come_59 ?_
  refine X_iadd i_X0_come_60 ?_
  refine Y_putI i_X0_come_61 f_X0_30 (zaf_6 hi) t_0_6 (zp0 _ _ _ _ _ _) ?_
  refine Y_iload_4 i_X0_come_64 ?_
  refine X_iret i_X0_come_66 rfl ?_
  exact ⟨rfl, rfl⟩
set_option maxRecDepth 100000 in
theorem c_X0_remake {i : Nat} (hi : i < 3) {M : zMem} {A : zAft} {g w v : Int} (g0 : 0 ≤ g) (g1 : g < 6) (hw : zR w) : zCt kX0_remake 0 [.ref (7 * i), .int (zii g), .int (zii w), .int (zii v)] ((zs M i A)) (zVoid (zs M i (sRe A g w v))) := by
  have hw1 := hw.1
  have hw2 := hw.2
  refine zMet (by decide) (Nat.le_of_ble_eq_true rfl) ?_
  show zX kX0_remake 0 0 [some (.ref (7 * i)), some (.int (zii g)), some (.int (zii w)), some (.int (zii v))] [] _ _
  refine Y_iload_2 i_X0_remake_0 ?_
  rcases (by omega : w = 0 ∨ w = 1 ∨ (w ≠ 0 ∧ w ≠ 1)) with hsw | hsw | hsw
  · refine X_look i_X0_remake_1 (by decide) ⟨by omega, by omega⟩ (off := 27) (by rw [hsw]; decide) (tgt := 28) rfl ?_
    refine Y_aload_0 i_X0_remake_28 ?_
    refine X_getR i_X0_remake_29 f_X0_9 (zaf_0 hi) ?_
    refine Y_iload_1 i_X0_remake_32 ?_
    refine Y_iload_3 i_X0_remake_33 ?_
    refine Y_iast i_X0_remake_34 (zaa_0 hi) ⟨by omega, by omega⟩ rfl (zp0 _ _ _ _ _ _) ?_
    refine X_goto i_X0_remake_35 (tgt := 55) rfl ?_
    refine X_vret i_X0_remake_55 rfl ?_
    exact zrv0 (by simp [sRe, hsw])
  · refine X_look i_X0_remake_1 (by decide) ⟨by omega, by omega⟩ (off := 37) (by rw [hsw]; decide) (tgt := 38) rfl ?_
    refine Y_aload_0 i_X0_remake_38 ?_
    refine X_getR i_X0_remake_39 f_X0_15 (zaf_1 hi) ?_
    refine Y_iload_1 i_X0_remake_42 ?_
    refine Y_iload_3 i_X0_remake_43 ?_
    refine Y_iast i_X0_remake_44 (zaa_1 hi) ⟨by omega, by omega⟩ rfl (zp0 _ _ _ _ _ _) ?_
    refine X_goto i_X0_remake_45 (tgt := 55) rfl ?_
    refine X_vret i_X0_remake_55 rfl ?_
    exact zrv0 (by simp [sRe, hsw])
  · refine X_look i_X0_remake_1 (by decide) ⟨by omega, by omega⟩ (off := 47) (by simp only [Op.lookupswitch.offset, List.find?]; first | rfl | (repeat (first | rfl | (rw [if_neg (by omega)])))) (tgt := 48) rfl ?_
    refine Y_aload_0 i_X0_remake_48 ?_
    refine X_getR i_X0_remake_49 f_X0_18 (zaf_2 hi) ?_
    refine Y_iload_1 i_X0_remake_52 ?_
    refine Y_iload_3 i_X0_remake_53 ?_
    refine Y_iast i_X0_remake_54 (zaa_2 hi) ⟨by omega, by omega⟩ rfl (zp0 _ _ _ _ _ _) ?_
    refine X_vret i_X0_remake_55 rfl ?_
    exact zrv0 (by simp [sRe, hsw])
def sTell (A : zAft) (g w : Int) : Int := (if w = 0 then A 0 g else if w = 1 then A 1 g else if w = 2 then A 2 g else if w = 3 then A 3 g else if w = 4 then A 4 g else if w = 5 then A 5 g else if w = 6 then sLim (A 0 g) (A 1 g) else if w = 7 then sPat (A 0 g) (A 1 g) else if w = 8 then sSip (A 0 g) else sEno (A 0 g) (A 1 g))
set_option maxRecDepth 100000 in
theorem c_X0_tellOf {i : Nat} (hi : i < 3) {M : zMem} {A : zAft} (e : M i = A) {b : Int} (hA : zOk b A) {g w : Int} (g0 : 0 ≤ g) (g1 : g < 6) (w0 : 0 ≤ w) (w1 : w < 10) : zCt kX0_tellOf 1 [.ref (7 * i), .int (zii g), .int (zii w)] M (zRet (.int (zii (sTell A g w))) M) := by
  subst e
  have hgg := hA.2 g g0 g1
  unfold zG at hgg
  refine zMet (by decide) (Nat.le_of_ble_eq_true rfl) ?_
  show zX kX0_tellOf 1 0 [some (.ref (7 * i)), some (.int (zii g)), some (.int (zii w))] [] _ _
  refine Y_iload_2 i_X0_tellOf_0 ?_
  rcases (by omega : w = 0 ∨ w = 1 ∨ w = 2 ∨ w = 3 ∨ w = 4 ∨ w = 5 ∨ w = 6 ∨ w = 7 ∨ w = 8 ∨ w = 9) with hsw | hsw | hsw | hsw | hsw | hsw | hsw | hsw | hsw | hsw
  · refine X_tabIn i_X0_tellOf_1 ⟨by omega, by omega⟩ (by omega) (by omega) (off := 51) (by rw [hsw]; rfl) (tgt := 52) rfl ?_
    refine Y_aload_0 i_X0_tellOf_52 ?_
    refine X_getR i_X0_tellOf_53 f_X0_9 (zaf_0 hi) ?_
    refine Y_iload_1 i_X0_tellOf_56 ?_
    refine Y_iald i_X0_tellOf_57 (zaa_0 hi) ⟨by omega, by omega⟩ rfl rfl ?_
    refine X_iret i_X0_tellOf_58 rfl ?_
    exact zri (by simp [sTell, hsw])
  · refine X_tabIn i_X0_tellOf_1 ⟨by omega, by omega⟩ (by omega) (by omega) (off := 58) (by rw [hsw]; rfl) (tgt := 59) rfl ?_
    refine Y_aload_0 i_X0_tellOf_59 ?_
    refine X_getR i_X0_tellOf_60 f_X0_15 (zaf_1 hi) ?_
    refine Y_iload_1 i_X0_tellOf_63 ?_
    refine Y_iald i_X0_tellOf_64 (zaa_1 hi) ⟨by omega, by omega⟩ rfl rfl ?_
    refine X_iret i_X0_tellOf_65 rfl ?_
    exact zri (by simp [sTell, hsw])
  · refine X_tabIn i_X0_tellOf_1 ⟨by omega, by omega⟩ (by omega) (by omega) (off := 65) (by rw [hsw]; rfl) (tgt := 66) rfl ?_
    refine Y_aload_0 i_X0_tellOf_66 ?_
    refine X_getR i_X0_tellOf_67 f_X0_18 (zaf_2 hi) ?_
    refine Y_iload_1 i_X0_tellOf_70 ?_
    refine Y_iald i_X0_tellOf_71 (zaa_2 hi) ⟨by omega, by omega⟩ rfl rfl ?_
    refine X_iret i_X0_tellOf_72 rfl ?_
    exact zri (by simp [sTell, hsw])
  · refine X_tabIn i_X0_tellOf_1 ⟨by omega, by omega⟩ (by omega) (by omega) (off := 72) (by rw [hsw]; rfl) (tgt := 73) rfl ?_
    refine Y_aload_0 i_X0_tellOf_73 ?_
    refine X_getR i_X0_tellOf_74 f_X0_21 (zaf_3 hi) ?_
    refine Y_iload_1 i_X0_tellOf_77 ?_
    refine Y_iald i_X0_tellOf_78 (zaa_3 hi) ⟨by omega, by omega⟩ rfl rfl ?_
    refine X_iret i_X0_tellOf_79 rfl ?_
    exact zri (by simp [sTell, hsw])
  · refine X_tabIn i_X0_tellOf_1 ⟨by omega, by omega⟩ (by omega) (by omega) (off := 79) (by rw [hsw]; rfl) (tgt := 80) rfl ?_
    refine Y_aload_0 i_X0_tellOf_80 ?_
    refine X_getR i_X0_tellOf_81 f_X0_24 (zaf_4 hi) ?_
    refine Y_iload_1 i_X0_tellOf_84 ?_
    refine Y_iald i_X0_tellOf_85 (zaa_4 hi) ⟨by omega, by omega⟩ rfl rfl ?_
    refine X_iret i_X0_tellOf_86 rfl ?_
    exact zri (by simp [sTell, hsw])
  · refine X_tabIn i_X0_tellOf_1 ⟨by omega, by omega⟩ (by omega) (by omega) (off := 86) (by rw [hsw]; rfl) (tgt := 87) rfl ?_
    refine Y_aload_0 i_X0_tellOf_87 ?_
    refine X_getR i_X0_tellOf_88 f_X0_27 (zaf_5 hi) ?_
    refine Y_iload_1 i_X0_tellOf_91 ?_
    refine Y_iald i_X0_tellOf_92 (zaa_5 hi) ⟨by omega, by omega⟩ rfl rfl ?_
    refine X_iret i_X0_tellOf_93 rfl ?_
    exact zri (by simp [sTell, hsw])
  · refine X_tabIn i_X0_tellOf_1 ⟨by omega, by omega⟩ (by omega) (by omega) (off := 93) (by rw [hsw]; rfl) (tgt := 94) rfl ?_
    refine Y_aload_0 i_X0_tellOf_94 ?_
    refine X_getR i_X0_tellOf_95 f_X0_9 (zaf_0 hi) ?_
    refine Y_iload_1 i_X0_tellOf_98 ?_
    refine Y_iald i_X0_tellOf_99 (zaa_0 hi) ⟨by omega, by omega⟩ rfl rfl ?_
    refine Y_aload_0 i_X0_tellOf_100 ?_
    refine X_getR i_X0_tellOf_101 f_X0_15 (zaf_1 hi) ?_
    refine Y_iload_1 i_X0_tellOf_104 ?_
    refine Y_iald i_X0_tellOf_105 (zaa_1 hi) ⟨by omega, by omega⟩ rfl rfl ?_
    refine Y_callS (k' := kX5_limit) i_X0_tellOf_106 l_X0_68 m_X5_limit (c_X5_limit hgg.1 hgg.2.1) rfl rfl rfl rfl ?_
    refine X_iret i_X0_tellOf_109 rfl ?_
    exact zri (by simp [sTell, hsw])
  · refine X_tabIn i_X0_tellOf_1 ⟨by omega, by omega⟩ (by omega) (by omega) (off := 109) (by rw [hsw]; rfl) (tgt := 110) rfl ?_
    refine Y_aload_0 i_X0_tellOf_110 ?_
    refine X_getR i_X0_tellOf_111 f_X0_9 (zaf_0 hi) ?_
    refine Y_iload_1 i_X0_tellOf_114 ?_
    refine Y_iald i_X0_tellOf_115 (zaa_0 hi) ⟨by omega, by omega⟩ rfl rfl ?_
    refine Y_aload_0 i_X0_tellOf_116 ?_
    refine X_getR i_X0_tellOf_117 f_X0_15 (zaf_1 hi) ?_
    refine Y_iload_1 i_X0_tellOf_120 ?_
    refine Y_iald i_X0_tellOf_121 (zaa_1 hi) ⟨by omega, by omega⟩ rfl rfl ?_
    refine Y_callS (k' := kX5_patience) i_X0_tellOf_122 l_X0_74 m_X5_patience (c_X5_patience hgg.1 hgg.2.1) rfl rfl rfl rfl ?_
    refine X_iret i_X0_tellOf_125 rfl ?_
    exact zri (by simp [sTell, hsw])
  · refine X_tabIn i_X0_tellOf_1 ⟨by omega, by omega⟩ (by omega) (by omega) (off := 125) (by rw [hsw]; rfl) (tgt := 126) rfl ?_
    refine Y_aload_0 i_X0_tellOf_126 ?_
    refine X_getR i_X0_tellOf_127 f_X0_9 (zaf_0 hi) ?_
    refine Y_iload_1 i_X0_tellOf_130 ?_
    refine Y_iald i_X0_tellOf_131 (zaa_0 hi) ⟨by omega, by omega⟩ rfl rfl ?_
    refine Y_callS (k' := kX5_sip) i_X0_tellOf_132 l_X0_77 m_X5_sip (c_X5_sip hgg.1) rfl rfl rfl rfl ?_
    refine X_iret i_X0_tellOf_135 rfl ?_
    exact zri (by simp [sTell, hsw])
  · refine X_tabOut i_X0_tellOf_1 ⟨by omega, by omega⟩ (by omega) (tgt := 136) rfl ?_
    refine Y_aload_0 i_X0_tellOf_136 ?_
    refine X_getR i_X0_tellOf_137 f_X0_9 (zaf_0 hi) ?_
    refine Y_iload_1 i_X0_tellOf_140 ?_
    refine Y_iald i_X0_tellOf_141 (zaa_0 hi) ⟨by omega, by omega⟩ rfl rfl ?_
    refine Y_aload_0 i_X0_tellOf_142 ?_
    refine X_getR i_X0_tellOf_143 f_X0_15 (zaf_1 hi) ?_
    refine Y_iload_1 i_X0_tellOf_146 ?_
    refine Y_iald i_X0_tellOf_147 (zaa_1 hi) ⟨by omega, by omega⟩ rfl rfl ?_
    refine Y_callS (k' := kX5_enough) i_X0_tellOf_148 l_X0_80 m_X5_enough (c_X5_enough hgg.1 hgg.2.1) rfl rfl rfl rfl ?_
    refine X_iret i_X0_tellOf_151 rfl ?_
    exact zri (by simp [sTell, hsw])
set_option maxRecDepth 100000 in
theorem c_X0_setOf {i : Nat} (hi : i < 3) {M : zMem} {A : zAft} (e : M i = A) {b : Int} (hA : zOk b A) {s : Int} (hs : zR s) : zCt kX0_setOf 0 [.ref (7 * i), .int (zii s)] M (zRet (.int (zii (sSet A s (sG A)))) M) := by
  subst e
  have h6 := hA.1.1
  have hG := sG_le hA.1
  have hs1 := hs.1
  have hs2 := hs.2
  refine zMet (by decide) (Nat.le_of_ble_eq_true rfl) ?_
  show zX kX0_setOf 0 0 [some (.ref (7 * i)), some (.int (zii s)), none, none] [] _ _
  have loop : ∀ (n : Nat) (g : Nat), g + n = sG (M i) → zX kX0_setOf 0 4 [some (.ref (7 * i)), some (.int (zii s)), some (.int (zii (sSet (M i) s g))), some (.int (zii g))] [] M (zRet (.int (zii (sSet (M i) s (sG (M i))))) M) := by
    intro n
    induction n with
    | zero =>
      intro g hg
      refine Y_iload_3 i_X0_setOf_4 ?_
      refine Y_aload_0 i_X0_setOf_5 ?_
      refine Y_getI i_X0_setOf_6 f_X0_30 (zaf_6 hi) rfl ?_
      refine X_icmp_ge i_X0_setOf_9 (tgt := 34) rfl ⟨by omega, by omega⟩ ⟨by omega, by omega⟩ (fun h9 => ?_) (fun h9 => by exfalso; omega)
      refine Y_iload_2 i_X0_setOf_34 ?_
      refine X_iret i_X0_setOf_35 rfl ?_
      exact zri (by rw [show g = sG (M i) by omega])
    | succ n ih =>
      intro g hg
      have hgg := hA.2 g (by omega) (by omega)
      unfold zG at hgg
      refine Y_iload_3 i_X0_setOf_4 ?_
      refine Y_aload_0 i_X0_setOf_5 ?_
      refine Y_getI i_X0_setOf_6 f_X0_30 (zaf_6 hi) rfl ?_
      refine X_icmp_ge i_X0_setOf_9 (tgt := 34) rfl ⟨by omega, by omega⟩ ⟨by omega, by omega⟩ (fun h9 => by exfalso; omega) (fun h9 => ?_)
      refine Y_aload_0 i_X0_setOf_12 ?_
      refine X_getR i_X0_setOf_13 f_X0_21 (zaf_3 hi) ?_
      refine Y_iload_3 i_X0_setOf_16 ?_
      refine Y_iald i_X0_setOf_17 (zaa_3 hi) ⟨by omega, by omega⟩ rfl rfl ?_
      refine Y_iload_1 i_X0_setOf_18 ?_
      refine Y_icmp_ne i_X0_setOf_19 (tgt := 28) rfl ⟨by omega, by omega⟩ ⟨by omega, by omega⟩ (fun h19 => ?_) (fun h19 => ?_)
      · refine Y_iinc_3 i_X0_setOf_28 rfl rfl ?_
        refine X_goto i_X0_setOf_31 (tgt := 4) rfl ?_
        exact X_eq (ih (g + 1) (by omega)) (by simp [sSet, h19]) rfl rfl
      · refine Y_iload_2 i_X0_setOf_22 ?_
        refine X_iconst i_X0_setOf_23 ?_
        refine Y_iload_3 i_X0_setOf_24 ?_
        refine X_ishl i_X0_setOf_25 ?_
        refine X_ior i_X0_setOf_26 ?_
        refine Y_istore_2 i_X0_setOf_27 rfl rfl ?_
        refine Y_iinc_3 i_X0_setOf_28 rfl rfl ?_
        refine X_goto i_X0_setOf_31 (tgt := 4) rfl ?_
        exact X_eq (ih (g + 1) (by omega)) (by simp [sSet, h19]) rfl rfl
  refine X_iconst i_X0_setOf_0 ?_
  refine Y_istore_2 i_X0_setOf_1 rfl rfl ?_
  refine X_iconst i_X0_setOf_2 ?_
  refine Y_istore_3 i_X0_setOf_3 rfl rfl ?_
  exact loop (sG (M i)) 0 (by omega)
set_option maxRecDepth 100000 in
theorem c_X0_wholeThirst {i : Nat} (hi : i < 3) {M : zMem} {A : zAft} (e : M i = A) {b : Int} (hA : zOk b A) : zCt kX0_wholeThirst 0 [.ref (7 * i)] M (zRet (.int (zii (sTh A (sG A)))) M) := by
  subst e
  have h6 := hA.1.1
  have hG := sG_le hA.1
  refine zMet (by decide) (Nat.le_of_ble_eq_true rfl) ?_
  show zX kX0_wholeThirst 0 0 [some (.ref (7 * i)), none, none] [] _ _
  have loop : ∀ (n : Nat) (g : Nat), g + n = sG (M i) → zX kX0_wholeThirst 0 4 [some (.ref (7 * i)), some (.int (zii (sTh (M i) g))), some (.int (zii g))] [] M (zRet (.int (zii (sTh (M i) (sG (M i))))) M) := by
    intro n
    induction n with
    | zero =>
      intro g hg
      have hth := sTh_in hA.2 g (by omega)
      refine Y_iload_2 i_X0_wholeThirst_4 ?_
      refine Y_aload_0 i_X0_wholeThirst_5 ?_
      refine Y_getI i_X0_wholeThirst_6 f_X0_30 (zaf_6 hi) rfl ?_
      refine X_icmp_ge i_X0_wholeThirst_9 (tgt := 37) rfl ⟨by omega, by omega⟩ ⟨by omega, by omega⟩ (fun h9 => ?_) (fun h9 => by exfalso; omega)
      refine Y_iload_1 i_X0_wholeThirst_37 ?_
      refine X_iret i_X0_wholeThirst_38 rfl ?_
      exact zri (by rw [show g = sG (M i) by omega])
    | succ n ih =>
      intro g hg
      have hgg := hA.2 g (by omega) (by omega)
      unfold zG at hgg
      have hth := sTh_in hA.2 g (by omega)
      refine Y_iload_2 i_X0_wholeThirst_4 ?_
      refine Y_aload_0 i_X0_wholeThirst_5 ?_
      refine Y_getI i_X0_wholeThirst_6 f_X0_30 (zaf_6 hi) rfl ?_
      refine X_icmp_ge i_X0_wholeThirst_9 (tgt := 37) rfl ⟨by omega, by omega⟩ ⟨by omega, by omega⟩ (fun h9 => by exfalso; omega) (fun h9 => ?_)
      refine Y_aload_0 i_X0_wholeThirst_12 ?_
      refine X_getR i_X0_wholeThirst_13 f_X0_21 (zaf_3 hi) ?_
      refine Y_iload_2 i_X0_wholeThirst_16 ?_
      refine Y_iald i_X0_wholeThirst_17 (zaa_3 hi) ⟨by omega, by omega⟩ rfl rfl ?_
      refine X_iconst i_X0_wholeThirst_18 ?_
      refine X_icmp_eq i_X0_wholeThirst_19 (tgt := 31) rfl ⟨by omega, by omega⟩ ⟨by omega, by omega⟩ (fun h19 => ?_) (fun h19 => ?_)
      · refine Y_iinc_2 i_X0_wholeThirst_31 rfl rfl ?_
        refine X_goto i_X0_wholeThirst_34 (tgt := 4) rfl ?_
        exact X_eq (ih (g + 1) (by omega)) (by simp [sTh, h19]) rfl rfl
      · refine Y_iload_1 i_X0_wholeThirst_22 ?_
        refine Y_aload_0 i_X0_wholeThirst_23 ?_
        refine X_getR i_X0_wholeThirst_24 f_X0_18 (zaf_2 hi) ?_
        refine Y_iload_2 i_X0_wholeThirst_27 ?_
        refine Y_iald i_X0_wholeThirst_28 (zaa_2 hi) ⟨by omega, by omega⟩ rfl rfl ?_
        refine X_iadd i_X0_wholeThirst_29 ?_
        refine Y_istore_1 i_X0_wholeThirst_30 rfl rfl ?_
        refine Y_iinc_2 i_X0_wholeThirst_31 rfl rfl ?_
        refine X_goto i_X0_wholeThirst_34 (tgt := 4) rfl ?_
        exact X_eq (ih (g + 1) (by omega)) (by simp [sTh, h19]) rfl rfl
  refine X_iconst i_X0_wholeThirst_0 ?_
  refine Y_istore_1 i_X0_wholeThirst_1 rfl rfl ?_
  refine X_iconst i_X0_wholeThirst_2 ?_
  refine Y_istore_2 i_X0_wholeThirst_3 rfl rfl ?_
  exact loop (sG (M i)) 0 (by omega)
theorem sAll_le {A : zAft} {x : Int} : ∀ {m n : Nat}, n ≤ m → sAll A x m = true → sAll A x n = true := by
  intro m
  induction m with
  | zero => intro n h h2; rw [show n = 0 by omega]; rfl
  | succ m ih =>
    intro n h h2
    by_cases e : n = m + 1
    · subst e; exact h2
    · simp only [sAll, Bool.and_eq_true] at h2
      exact ih (by omega) h2.1
set_option maxRecDepth 100000 in
theorem c_X0_allGoneBut {i : Nat} (hi : i < 3) {M : zMem} {A : zAft} (e : M i = A) {b : Int} (hA : zOk b A) {x : Int} (hx : zR x) : zCt kX0_allGoneBut 0 [.ref (7 * i), .int (zii x)] M (zRet (.int (zii (if sAll A x (sG A) = true then 1 else 0))) M) := by
  subst e
  have h6 := hA.1.1
  have hG := sG_le hA.1
  have hx1 := hx.1
  have hx2 := hx.2
  refine zMet (by decide) (Nat.le_of_ble_eq_true rfl) ?_
  show zX kX0_allGoneBut 0 0 [some (.ref (7 * i)), some (.int (zii x)), none] [] _ _
  have loop : ∀ (n : Nat) (g : Nat), g + n = sG (M i) → sAll (M i) x g = true → zX kX0_allGoneBut 0 2 [some (.ref (7 * i)), some (.int (zii x)), some (.int (zii g))] [] M (zRet (.int (zii (if sAll (M i) x (sG (M i)) = true then 1 else 0))) M) := by
    intro n
    induction n with
    | zero =>
      intro g hg ha
      refine Y_iload_2 i_X0_allGoneBut_2 ?_
      refine Y_aload_0 i_X0_allGoneBut_3 ?_
      refine Y_getI i_X0_allGoneBut_4 f_X0_30 (zaf_6 hi) rfl ?_
      refine X_icmp_ge i_X0_allGoneBut_7 (tgt := 33) rfl ⟨by omega, by omega⟩ ⟨by omega, by omega⟩ (fun h7 => ?_) (fun h7 => by exfalso; omega)
      refine X_iconst i_X0_allGoneBut_33 ?_
      refine X_zret i_X0_allGoneBut_34 rfl (by omega) ?_
      exact zri (by rw [show sG (M i) = g by omega, ha]; rfl)
    | succ n ih =>
      intro g hg ha
      have hgg := hA.2 g (by omega) (by omega)
      unfold zG at hgg
      refine Y_iload_2 i_X0_allGoneBut_2 ?_
      refine Y_aload_0 i_X0_allGoneBut_3 ?_
      refine Y_getI i_X0_allGoneBut_4 f_X0_30 (zaf_6 hi) rfl ?_
      refine X_icmp_ge i_X0_allGoneBut_7 (tgt := 33) rfl ⟨by omega, by omega⟩ ⟨by omega, by omega⟩ (fun h7 => by exfalso; omega) (fun h7 => ?_)
      refine Y_iload_2 i_X0_allGoneBut_10 ?_
      refine Y_iload_1 i_X0_allGoneBut_11 ?_
      refine X_icmp_eq i_X0_allGoneBut_12 (tgt := 27) rfl ⟨by omega, by omega⟩ ⟨by omega, by omega⟩ (fun h12 => ?_) (fun h12 => ?_)
      · refine Y_iinc_2 i_X0_allGoneBut_27 rfl rfl ?_
        refine X_goto i_X0_allGoneBut_30 (tgt := 2) rfl ?_
        exact X_eq (ih (g + 1) (by omega) (by simp [sAll, ha, h12])) (by simp) rfl rfl
      · refine Y_aload_0 i_X0_allGoneBut_15 ?_
        refine X_getR i_X0_allGoneBut_16 f_X0_21 (zaf_3 hi) ?_
        refine Y_iload_2 i_X0_allGoneBut_19 ?_
        refine Y_iald i_X0_allGoneBut_20 (zaa_3 hi) ⟨by omega, by omega⟩ rfl rfl ?_
        refine X_iconst i_X0_allGoneBut_21 ?_
        refine X_icmp_eq i_X0_allGoneBut_22 (tgt := 27) rfl ⟨by omega, by omega⟩ ⟨by omega, by omega⟩ (fun h22 => ?_) (fun h22 => ?_)
        · refine Y_iinc_2 i_X0_allGoneBut_27 rfl rfl ?_
          refine X_goto i_X0_allGoneBut_30 (tgt := 2) rfl ?_
          exact X_eq (ih (g + 1) (by omega) (by simp [sAll, ha, h22])) (by simp) rfl rfl
        · refine X_iconst i_X0_allGoneBut_25 ?_
          refine X_zret i_X0_allGoneBut_26 rfl (by omega) ?_
          exact zri (by rw [if_neg]; intro z; have z2 := sAll_le (n := g + 1) (by omega) z; simp [sAll, ha, h12, h22] at z2)
  refine X_iconst i_X0_allGoneBut_0 ?_
  refine Y_istore_2 i_X0_allGoneBut_1 rfl rfl ?_
  exact loop (sG (M i)) 0 (by omega) rfl
set_option maxRecDepth 100000 in
theorem c_X0_passFor {i : Nat} (hi : i < 3) {M : zMem} {A : zAft} {b : Int} (hA : zOk b A) {g : Int} (g0 : 0 ≤ g) (g1 : g < 6) : zCt kX0_passFor 1 [.ref (7 * i), .int (zii g)] ((zs M i A)) (zVoid (zs M i (sFor A g))) := by
  have hgg := hA.2 g g0 g1
  unfold zG at hgg
  have p1 := sSip_in (A 0 g)
  have p2 := sPat_in (k := A 0 g) hgg.2.1
  have p3 := sEno_in (k := A 0 g) hgg.2.1
  have p4 := sLim_in (k := A 0 g) hgg.2.1
  have t1 : 0 ≤ sT1 (A 2 g) ∧ sT1 (A 2 g) ≤ 30 := by unfold sT1; split <;> omega
  have t2 : 0 ≤ sT2 (A 2 g - sSip (A 0 g)) ∧ sT2 (A 2 g - sSip (A 0 g)) ≤ 30 := by unfold sT2; split <;> omega
  refine zMet (by decide) (Nat.le_of_ble_eq_true rfl) ?_
  show zX kX0_passFor 1 0 [some (.ref (7 * i)), some (.int (zii g))] [] _ _
  refine Y_aload_0 i_X0_passFor_0 ?_
  refine X_getR i_X0_passFor_1 f_X0_21 (zaf_3 hi) ?_
  refine Y_iload_1 i_X0_passFor_4 ?_
  refine Y_iald i_X0_passFor_5 (zaa_3 hi) ⟨by omega, by omega⟩ rfl (zg0 _ _ _ _ _) ?_
  rcases (by omega : A 3 g = 0 ∨ A 3 g = 1 ∨ A 3 g = 2 ∨ A 3 g = 3) with hsw | hsw | hsw | hsw
  · refine X_tabIn i_X0_passFor_6 ⟨by omega, by omega⟩ (by omega) (by omega) (off := 26) (by rw [hsw]; rfl) (tgt := 32) rfl ?_
    refine Y_aload_0 i_X0_passFor_32 ?_
    refine X_getR i_X0_passFor_33 f_X0_18 (zaf_2 hi) ?_
    refine Y_iload_1 i_X0_passFor_36 ?_
    refine Y_aload_0 i_X0_passFor_37 ?_
    refine X_getR i_X0_passFor_38 f_X0_18 (zaf_2 hi) ?_
    refine Y_iload_1 i_X0_passFor_41 ?_
    refine Y_iald i_X0_passFor_42 (zaa_2 hi) ⟨by omega, by omega⟩ rfl (zg0 _ _ _ _ _) ?_
    refine X_iconst i_X0_passFor_43 ?_
    refine X_iadd i_X0_passFor_44 ?_
    refine X_bipush i_X0_passFor_45 (by decide +kernel) ?_
    refine X_mmin i_X0_passFor_47 lm_X0_96 m_J9_min_7cf53 ⟨by omega, by omega⟩ ⟨by omega, by omega⟩ rfl rfl ?_
    change zX _ _ _ _ (.int (zii (sT1 (A 2 g))) :: _) _ _
    refine Y_iast i_X0_passFor_50 (zaa_2 hi) ⟨by omega, by omega⟩ rfl (zp0 _ _ _ _ _ _) ?_
    refine Y_aload_0 i_X0_passFor_51 ?_
    refine X_getR i_X0_passFor_52 f_X0_18 (zaf_2 hi) ?_
    refine Y_iload_1 i_X0_passFor_55 ?_
    refine Y_iald i_X0_passFor_56 (zaa_2 hi) ⟨by omega, by omega⟩ rfl (zga zr0) ?_
    refine Y_aload_0 i_X0_passFor_57 ?_
    refine X_getR i_X0_passFor_58 f_X0_9 (zaf_0 hi) ?_
    refine Y_iload_1 i_X0_passFor_61 ?_
    refine Y_iald i_X0_passFor_62 (zaa_0 hi) ⟨by omega, by omega⟩ rfl (zga (zr1 rfl rfl)) ?_
    refine Y_aload_0 i_X0_passFor_63 ?_
    refine X_getR i_X0_passFor_64 f_X0_15 (zaf_1 hi) ?_
    refine Y_iload_1 i_X0_passFor_67 ?_
    refine Y_iald i_X0_passFor_68 (zaa_1 hi) ⟨by omega, by omega⟩ rfl (zga (zr1 rfl rfl)) ?_
    refine Y_callS (k' := kX5_limit) i_X0_passFor_69 l_X0_68 m_X5_limit (c_X5_limit hgg.1 hgg.2.1) rfl rfl rfl rfl ?_
    refine X_icmp_lt i_X0_passFor_72 (tgt := 213) rfl ⟨by omega, by omega⟩ ⟨by omega, by omega⟩ (fun h72 => ?_) (fun h72 => ?_)
    · refine X_vret i_X0_passFor_213 rfl ?_
      exact zrv0 (congrArg (zs M i) (by simp [sFor, hsw, Int.not_le.mpr h72]))
    · refine Y_aload_0 i_X0_passFor_75 ?_
      refine Y_iload_1 i_X0_passFor_76 ?_
      refine Y_callVv (k' := kX0_rise) i_X0_passFor_77 l_X0_64 m_X0_rise (c_X0_rise hi g0 g1) (zao hi) rfl rfl rfl rfl ?_
      refine X_goto i_X0_passFor_80 (tgt := 213) rfl ?_
      refine X_vret i_X0_passFor_213 rfl ?_
      exact zrv0 (congrArg (zs M i) (by simp [sFor, sRise, hsw, Int.not_lt.mp h72]))
  · refine X_tabIn i_X0_passFor_6 ⟨by omega, by omega⟩ (by omega) (by omega) (off := 77) (by rw [hsw]; rfl) (tgt := 83) rfl ?_
    refine Y_aload_0 i_X0_passFor_83 ?_
    refine X_getR i_X0_passFor_84 f_X0_24 (zaf_4 hi) ?_
    refine Y_iload_1 i_X0_passFor_87 ?_
    refine X_dup2 i_X0_passFor_88 rfl rfl ?_
    refine Y_iald i_X0_passFor_89 (zaa_4 hi) ⟨by omega, by omega⟩ rfl (zg0 _ _ _ _ _) ?_
    refine X_iconst i_X0_passFor_90 ?_
    refine X_iadd i_X0_passFor_91 ?_
    refine Y_iast i_X0_passFor_92 (zaa_4 hi) ⟨by omega, by omega⟩ rfl (zp0 _ _ _ _ _ _) ?_
    refine Y_aload_0 i_X0_passFor_93 ?_
    refine X_getR i_X0_passFor_94 f_X0_24 (zaf_4 hi) ?_
    refine Y_iload_1 i_X0_passFor_97 ?_
    refine Y_iald i_X0_passFor_98 (zaa_4 hi) ⟨by omega, by omega⟩ rfl (zga zr0) ?_
    refine Y_aload_0 i_X0_passFor_99 ?_
    refine X_getR i_X0_passFor_100 f_X0_9 (zaf_0 hi) ?_
    refine Y_iload_1 i_X0_passFor_103 ?_
    refine Y_iald i_X0_passFor_104 (zaa_0 hi) ⟨by omega, by omega⟩ rfl (zga (zr1 rfl rfl)) ?_
    refine Y_aload_0 i_X0_passFor_105 ?_
    refine X_getR i_X0_passFor_106 f_X0_15 (zaf_1 hi) ?_
    refine Y_iload_1 i_X0_passFor_109 ?_
    refine Y_iald i_X0_passFor_110 (zaa_1 hi) ⟨by omega, by omega⟩ rfl (zga (zr1 rfl rfl)) ?_
    refine Y_callS (k' := kX5_patience) i_X0_passFor_111 l_X0_74 m_X5_patience (c_X5_patience hgg.1 hgg.2.1) rfl rfl rfl rfl ?_
    refine X_icmp_le i_X0_passFor_114 (tgt := 213) rfl ⟨by omega, by omega⟩ ⟨by omega, by omega⟩ (fun h114 => ?_) (fun h114 => ?_)
    · refine X_vret i_X0_passFor_213 rfl ?_
      exact zrv0 (congrArg (zs M i) (by simp [sFor, hsw, Int.not_lt.mpr h114]))
    · refine Y_aload_0 i_X0_passFor_117 ?_
      refine X_getR i_X0_passFor_118 f_X0_21 (zaf_3 hi) ?_
      refine Y_iload_1 i_X0_passFor_121 ?_
      refine X_iconst i_X0_passFor_122 ?_
      refine Y_iast i_X0_passFor_123 (zaa_3 hi) ⟨by omega, by omega⟩ rfl (zp0 _ _ _ _ _ _) ?_
      refine X_goto i_X0_passFor_124 (tgt := 213) rfl ?_
      refine X_vret i_X0_passFor_213 rfl ?_
      exact zrv0 (congrArg (zs M i) (by simp [sFor, hsw, Int.not_le.mp h114]))
  · refine X_tabIn i_X0_passFor_6 ⟨by omega, by omega⟩ (by omega) (by omega) (off := 121) (by rw [hsw]; rfl) (tgt := 127) rfl ?_
    refine Y_aload_0 i_X0_passFor_127 ?_
    refine X_getR i_X0_passFor_128 f_X0_18 (zaf_2 hi) ?_
    refine Y_iload_1 i_X0_passFor_131 ?_
    refine Y_aload_0 i_X0_passFor_132 ?_
    refine X_getR i_X0_passFor_133 f_X0_18 (zaf_2 hi) ?_
    refine Y_iload_1 i_X0_passFor_136 ?_
    refine Y_iald i_X0_passFor_137 (zaa_2 hi) ⟨by omega, by omega⟩ rfl (zg0 _ _ _ _ _) ?_
    refine Y_aload_0 i_X0_passFor_138 ?_
    refine X_getR i_X0_passFor_139 f_X0_9 (zaf_0 hi) ?_
    refine Y_iload_1 i_X0_passFor_142 ?_
    refine Y_iald i_X0_passFor_143 (zaa_0 hi) ⟨by omega, by omega⟩ rfl (zg0 _ _ _ _ _) ?_
    refine Y_callS (k' := kX5_sip) i_X0_passFor_144 l_X0_77 m_X5_sip (c_X5_sip hgg.1) rfl rfl rfl rfl ?_
    refine X_isub i_X0_passFor_147 ?_
    refine X_iconst i_X0_passFor_148 ?_
    refine X_mmax i_X0_passFor_149 lm_X0_101 m_J9_max_7cf53 ⟨by omega, by omega⟩ ⟨by omega, by omega⟩ rfl rfl ?_
    change zX _ _ _ _ (.int (zii (sT2 (A 2 g - sSip (A 0 g)))) :: _) _ _
    refine Y_iast i_X0_passFor_152 (zaa_2 hi) ⟨by omega, by omega⟩ rfl (zp0 _ _ _ _ _ _) ?_
    refine Y_aload_0 i_X0_passFor_153 ?_
    refine X_getR i_X0_passFor_154 f_X0_18 (zaf_2 hi) ?_
    refine Y_iload_1 i_X0_passFor_157 ?_
    refine Y_iald i_X0_passFor_158 (zaa_2 hi) ⟨by omega, by omega⟩ rfl (zga zr0) ?_
    refine X_if_le i_X0_passFor_159 (tgt := 165) rfl ⟨by omega, by omega⟩ (fun h159 => ?_) (fun h159 => ?_)
    · refine Y_aload_0 i_X0_passFor_165 ?_
      refine X_getR i_X0_passFor_166 f_X0_27 (zaf_5 hi) ?_
      refine Y_iload_1 i_X0_passFor_169 ?_
      refine X_dup2 i_X0_passFor_170 rfl rfl ?_
      refine Y_iald i_X0_passFor_171 (zaa_5 hi) ⟨by omega, by omega⟩ rfl (zga (zr1 rfl rfl)) ?_
      refine X_iconst i_X0_passFor_172 ?_
      refine X_iadd i_X0_passFor_173 ?_
      refine Y_iast i_X0_passFor_174 (zaa_5 hi) ⟨by omega, by omega⟩ rfl (zp0 _ _ _ _ _ _) ?_
      refine Y_aload_0 i_X0_passFor_175 ?_
      refine X_getR i_X0_passFor_176 f_X0_21 (zaf_3 hi) ?_
      refine Y_iload_1 i_X0_passFor_179 ?_
      refine Y_aload_0 i_X0_passFor_180 ?_
      refine X_getR i_X0_passFor_181 f_X0_27 (zaf_5 hi) ?_
      refine Y_iload_1 i_X0_passFor_184 ?_
      refine Y_iald i_X0_passFor_185 (zaa_5 hi) ⟨by omega, by omega⟩ rfl (zga zr0) ?_
      refine Y_aload_0 i_X0_passFor_186 ?_
      refine X_getR i_X0_passFor_187 f_X0_9 (zaf_0 hi) ?_
      refine Y_iload_1 i_X0_passFor_190 ?_
      refine Y_iald i_X0_passFor_191 (zaa_0 hi) ⟨by omega, by omega⟩ rfl (zga (zr1 rfl (zr1 rfl rfl))) ?_
      refine Y_aload_0 i_X0_passFor_192 ?_
      refine X_getR i_X0_passFor_193 f_X0_15 (zaf_1 hi) ?_
      refine Y_iload_1 i_X0_passFor_196 ?_
      refine Y_iald i_X0_passFor_197 (zaa_1 hi) ⟨by omega, by omega⟩ rfl (zga (zr1 rfl (zr1 rfl rfl))) ?_
      refine Y_callS (k' := kX5_enough) i_X0_passFor_198 l_X0_80 m_X5_enough (c_X5_enough hgg.1 hgg.2.1) rfl rfl rfl rfl ?_
      refine X_icmp_lt i_X0_passFor_201 (tgt := 208) rfl ⟨by omega, by omega⟩ ⟨by omega, by omega⟩ (fun h201 => ?_) (fun h201 => ?_)
      · refine X_iconst i_X0_passFor_208 ?_
        refine Y_iast i_X0_passFor_209 (zaa_3 hi) ⟨by omega, by omega⟩ rfl (zp0 _ _ _ _ _ _) ?_
        refine X_goto i_X0_passFor_210 (tgt := 213) rfl ?_
        refine X_vret i_X0_passFor_213 rfl ?_
        exact zrv0 (congrArg (zs M i) (by simp [sFor, hsw, Int.not_lt.mpr h159, Int.not_le.mpr h201]))
      · refine X_iconst i_X0_passFor_204 ?_
        refine X_goto i_X0_passFor_205 (tgt := 209) rfl ?_
        refine Y_iast i_X0_passFor_209 (zaa_3 hi) ⟨by omega, by omega⟩ rfl (zp0 _ _ _ _ _ _) ?_
        refine X_goto i_X0_passFor_210 (tgt := 213) rfl ?_
        refine X_vret i_X0_passFor_213 rfl ?_
        exact zrv0 (congrArg (zs M i) (by simp [sFor, hsw, Int.not_lt.mpr h159, Int.not_lt.mp h201]))
    · refine X_goto i_X0_passFor_162 (tgt := 213) rfl ?_
      refine X_vret i_X0_passFor_213 rfl ?_
      exact zrv0 (congrArg (zs M i) (by simp [sFor, hsw, Int.not_le.mp h159]))
  · refine X_tabOut i_X0_passFor_6 ⟨by omega, by omega⟩ (by omega) (tgt := 213) rfl ?_
    refine X_vret i_X0_passFor_213 rfl ?_
    exact zrv0 (congrArg (zs M i) (by simp [sFor, hsw]))
set_option maxRecDepth 100000 in
theorem c_X0_passUnserved {i : Nat} (hi : i < 3) {M : zMem} {A : zAft} {b : Int} (hA : zOk b A) : zCt kX0_passUnserved 2 [.ref (7 * i)] ((zs M i A)) (zVoid (zs M i (sUns A))) := by
  have h6 := hA.1.1
  have hG := sG_le hA.1
  have hA1 : zOk (b + 1) (zwr A 6 3 (A 6 3 + 1)) := by
    refine ⟨?_, fun g g0 g1 => zG_eq (hA.2 g g0 g1) (fun r hr => zwr_r (by omega))⟩
    have := hA.1
    unfold zH at this ⊢
    simp [zwr]; omega
  refine zMet (by decide) (Nat.le_of_ble_eq_true rfl) ?_
  show zX kX0_passUnserved 2 0 [some (.ref (7 * i)), none] [] _ _
  have loop : ∀ (n : Nat) (g : Nat), g + n = sG A → zX kX0_passUnserved 2 12 [some (.ref (7 * i)), some (.int (zii g))] [] (zs M i (sForN (zwr A 6 3 (A 6 3 + 1)) g)) (zVoid (zs M i (sUns A))) := by
    intro n
    induction n with
    | zero =>
      intro g hg
      have h60 : sForN (zwr A 6 3 (A 6 3 + 1)) g 6 0 = A 6 0 := by rw [sForN_6]; rfl
      refine Y_iload_1 i_X0_passUnserved_12 ?_
      refine Y_aload_0 i_X0_passUnserved_13 ?_
      refine Y_getI i_X0_passUnserved_14 f_X0_30 (zaf_6 hi) (zg0 _ _ _ _ _) ?_
      refine X_icmp_ge i_X0_passUnserved_17 (tgt := 31) rfl ⟨by omega, by omega⟩ ⟨by omega, by omega⟩ (fun h17 => ?_) (fun h17 => by exfalso; omega)
      refine X_vret i_X0_passUnserved_31 rfl ?_
      exact zrv0 (by unfold sUns; rw [show g = sG A by omega])
    | succ n ih =>
      intro g hg
      have h60 : sForN (zwr A 6 3 (A 6 3 + 1)) g 6 0 = A 6 0 := by rw [sForN_6]; rfl
      refine Y_iload_1 i_X0_passUnserved_12 ?_
      refine Y_aload_0 i_X0_passUnserved_13 ?_
      refine Y_getI i_X0_passUnserved_14 f_X0_30 (zaf_6 hi) (zg0 _ _ _ _ _) ?_
      refine X_icmp_ge i_X0_passUnserved_17 (tgt := 31) rfl ⟨by omega, by omega⟩ ⟨by omega, by omega⟩ (fun h17 => by exfalso; omega) (fun h17 => ?_)
      refine Y_aload_0 i_X0_passUnserved_20 ?_
      refine Y_iload_1 i_X0_passUnserved_21 ?_
      refine Y_callVv (k' := kX0_passFor) i_X0_passUnserved_22 l_X0_93 m_X0_passFor (c_X0_passFor hi (sForN_ok hA1 g (by omega)) (by omega) (by omega)) (zao hi) rfl rfl rfl rfl ?_
      refine Y_iinc_1 i_X0_passUnserved_25 rfl rfl ?_
      refine X_goto i_X0_passUnserved_28 (tgt := 12) rfl ?_
      exact X_eq (ih (g + 1) (by omega)) (by simp) rfl rfl
  refine Y_aload_0 i_X0_passUnserved_0 ?_
  refine X_dup i_X0_passUnserved_1 rfl ?_
  refine Y_getI i_X0_passUnserved_2 f_X0_40 (zaf_9 hi) (zg0 _ _ _ _ _) ?_
  refine X_iconst i_X0_passUnserved_5 ?_
  refine X_iadd i_X0_passUnserved_6 ?_
  refine Y_putI i_X0_passUnserved_7 f_X0_40 (zaf_9 hi) t_0_9 (zp0 _ _ _ _ _ _) ?_
  refine X_iconst i_X0_passUnserved_10 ?_
  refine Y_istore_1 i_X0_passUnserved_11 rfl rfl ?_
  exact loop (sG A) 0 (by omega)
set_option maxRecDepth 100000 in
theorem c_X0_pourOne {i : Nat} (hi : i < 3) {M : zMem} {A : zAft} {b : Int} (hA : zOk b A) (hb : b ≤ 100000) : zCt kX0_pourOne 1 [.ref (7 * i)] ((zs M i A)) (zRet (.int (zii (sPr A))) (zs M i (sP1 A))) := by
  have h6 := hA.1
  unfold zH at h6
  have hG := sG_le hA.1
  have hc := sCnt_in A 2 (sG A)
  have hmm : sMany A 2 = sCnt A 2 (sG A) := rfl
  refine zMet (by decide) (Nat.le_of_ble_eq_true rfl) ?_
  show zX kX0_pourOne 1 0 [some (.ref (7 * i)), none, none] [] _ _
  refine Y_aload_0 i_X0_pourOne_0 ?_
  refine X_iconst i_X0_pourOne_1 ?_
  refine Y_callV (k' := kX0_howMany) i_X0_pourOne_2 l_X0_60 m_X0_howMany (c_X0_howMany hi (zs_self _ _ _) hA (zR_lit rfl)) (zao hi) rfl rfl rfl rfl ?_
  refine Y_aload_0 i_X0_pourOne_5 ?_
  refine Y_getI i_X0_pourOne_6 f_X0_34 (zaf_7 hi) (zg0 _ _ _ _ _) ?_
  refine X_icmp_lt i_X0_pourOne_9 (tgt := 14) rfl ⟨by omega, by omega⟩ ⟨by omega, by omega⟩ (fun h9 => ?_) (fun h9 => ?_)
  · have hpr : sPr A = sNx A (sG A) := by unfold sPr; rw [if_neg (by omega)]
    have loop : ∀ (n : Nat) (g : Nat), g + n = sG A → zX kX0_pourOne 1 18 [some (.ref (7 * i)), some (.int (zii (sNx A g))), some (.int (zii g))] [] (zs M i A) (zRet (.int (zii (sPr A))) (zs M i (sP1 A))) := by
      intro n
      induction n with
      | zero =>
        intro g hg
        obtain rfl : g = sG A := by omega
        have hx := sNx_in A (sG A)
        refine Y_iload_2 i_X0_pourOne_18 ?_
        refine Y_aload_0 i_X0_pourOne_19 ?_
        refine Y_getI i_X0_pourOne_20 f_X0_30 (zaf_6 hi) (zg0 _ _ _ _ _) ?_
        refine X_icmp_ge i_X0_pourOne_23 (tgt := 61) rfl ⟨by omega, by omega⟩ ⟨by omega, by omega⟩ (fun h23 => ?_) (fun h23 => by exfalso; omega)
        refine Y_iload_1 i_X0_pourOne_61 ?_
        refine X_iconst i_X0_pourOne_62 ?_
        refine Y_icmp_ne i_X0_pourOne_63 (tgt := 68) rfl ⟨by omega, by omega⟩ ⟨by omega, by omega⟩ (fun h63 => ?_) (fun h63 => ?_)
        · refine Y_aload_0 i_X0_pourOne_68 ?_
          refine X_getR i_X0_pourOne_69 f_X0_21 (zaf_3 hi) ?_
          refine Y_iload_1 i_X0_pourOne_72 ?_
          refine X_iconst i_X0_pourOne_73 ?_
          refine Y_iast i_X0_pourOne_74 (zaa_3 hi) ⟨by omega, by omega⟩ rfl (zp0 _ _ _ _ _ _) ?_
          refine Y_aload_0 i_X0_pourOne_75 ?_
          refine X_dup i_X0_pourOne_76 rfl ?_
          refine Y_getI i_X0_pourOne_77 f_X0_43 (zaf_10 hi) (zga (zr1 rfl rfl)) ?_
          refine X_iconst i_X0_pourOne_80 ?_
          refine X_iadd i_X0_pourOne_81 ?_
          refine Y_putI i_X0_pourOne_82 f_X0_43 (zaf_10 hi) t_0_10 (zp0 _ _ _ _ _ _) ?_
          refine Y_iload_1 i_X0_pourOne_85 ?_
          refine X_iret i_X0_pourOne_86 rfl ?_
          exact ⟨by rw [hpr], by unfold sP1; rw [if_neg (by omega), hpr]⟩
        · refine X_iconst i_X0_pourOne_66 ?_
          refine X_iret i_X0_pourOne_67 rfl ?_
          have e9 : sPr A = -1 := by omega
          exact ⟨by rw [e9], by unfold sP1; rw [if_pos (by omega)]⟩
      | succ n ih =>
        intro g hg
        have hx := sNx_in A g
        have hgg := hA.2 g (by omega) (by omega)
        unfold zG at hgg
        refine Y_iload_2 i_X0_pourOne_18 ?_
        refine Y_aload_0 i_X0_pourOne_19 ?_
        refine Y_getI i_X0_pourOne_20 f_X0_30 (zaf_6 hi) (zg0 _ _ _ _ _) ?_
        refine X_icmp_ge i_X0_pourOne_23 (tgt := 61) rfl ⟨by omega, by omega⟩ ⟨by omega, by omega⟩ (fun h23 => by exfalso; omega) (fun h23 => ?_)
        refine Y_aload_0 i_X0_pourOne_26 ?_
        refine X_getR i_X0_pourOne_27 f_X0_21 (zaf_3 hi) ?_
        refine Y_iload_2 i_X0_pourOne_30 ?_
        refine Y_iald i_X0_pourOne_31 (zaa_3 hi) ⟨by omega, by omega⟩ rfl (zg0 _ _ _ _ _) ?_
        refine X_iconst i_X0_pourOne_32 ?_
        refine X_icmp_eq i_X0_pourOne_33 (tgt := 39) rfl ⟨by omega, by omega⟩ ⟨by omega, by omega⟩ (fun h33 => ?_) (fun h33 => ?_)
        · refine Y_iload_1 i_X0_pourOne_39 ?_
          refine X_iconst i_X0_pourOne_40 ?_
          refine X_icmp_eq i_X0_pourOne_41 (tgt := 53) rfl ⟨by omega, by omega⟩ ⟨by omega, by omega⟩ (fun h41 => ?_) (fun h41 => ?_)
          · refine Y_iload_2 i_X0_pourOne_53 ?_
            refine Y_istore_1 i_X0_pourOne_54 rfl rfl ?_
            refine Y_iinc_2 i_X0_pourOne_55 rfl rfl ?_
            refine X_goto i_X0_pourOne_58 (tgt := 18) rfl ?_
            exact X_eq (ih (g + 1) (by omega)) (by simp [sNx_take0 h33 h41]) rfl rfl
          · refine Y_aload_0 i_X0_pourOne_44 ?_
            refine Y_iload_2 i_X0_pourOne_45 ?_
            refine Y_iload_1 i_X0_pourOne_46 ?_
            refine Y_callV (k' := kX0_isAhead) i_X0_pourOne_47 l_X0_104 m_X0_isAhead (c_X0_isAhead hi (zs_self _ _ _) hA (by omega) (by omega) (by omega) (by omega)) (zao hi) rfl rfl rfl rfl ?_
            refine Y_ifq_eq i_X0_pourOne_50 (tgt := 55) rfl  (fun h50 => ?_) (fun h50 => ?_)
            · refine Y_iinc_2 i_X0_pourOne_55 rfl rfl ?_
              refine X_goto i_X0_pourOne_58 (tgt := 18) rfl ?_
              exact X_eq (ih (g + 1) (by omega)) (by simp [sNx_keep h41 h50]) rfl rfl
            · refine Y_iload_2 i_X0_pourOne_53 ?_
              refine Y_istore_1 i_X0_pourOne_54 rfl rfl ?_
              refine Y_iinc_2 i_X0_pourOne_55 rfl rfl ?_
              refine X_goto i_X0_pourOne_58 (tgt := 18) rfl ?_
              exact X_eq (ih (g + 1) (by omega)) (by simp [sNx_take1 h33 h50]) rfl rfl
        · refine X_goto i_X0_pourOne_36 (tgt := 55) rfl ?_
          refine Y_iinc_2 i_X0_pourOne_55 rfl rfl ?_
          refine X_goto i_X0_pourOne_58 (tgt := 18) rfl ?_
          exact X_eq (ih (g + 1) (by omega)) (by simp [sNx_skip h33]) rfl rfl
    refine X_iconst i_X0_pourOne_14 ?_
    refine Y_istore_1 i_X0_pourOne_15 rfl rfl ?_
    refine X_iconst i_X0_pourOne_16 ?_
    refine Y_istore_2 i_X0_pourOne_17 rfl rfl ?_
    exact loop (sG A) 0 (by omega)
  · refine X_iconst i_X0_pourOne_12 ?_
    refine X_iret i_X0_pourOne_13 rfl ?_
    have e9 : sPr A = -1 := by unfold sPr; rw [if_pos (by omega)]
    exact ⟨by rw [e9], by unfold sP1; rw [if_pos (by omega)]⟩
set_option maxRecDepth 100000 in
theorem c_X0_passOne {i : Nat} (hi : i < 3) {M : zMem} {A : zAft} {b : Int} (hA : zOk b A) (hb : b ≤ 99999) : zCt kX0_passOne 3 [.ref (7 * i)] ((zs M i A)) (zVoid (zs M i (sMin A))) := by
  have hU := sUns_ok hA
  have h6 := hA.1
  unfold zH at h6
  refine zMet (by decide) (Nat.le_of_ble_eq_true rfl) ?_
  show zX kX0_passOne 3 0 [some (.ref (7 * i)), none] [] _ _
  have loop : ∀ (n : Nat) (j : Nat), j + n = 6 → ∀ B : zAft, zOk (b + 1) B → B 6 4 + n ≤ 6 * B 6 3 → zX kX0_passOne 3 6 [some (.ref (7 * i)), some (.int (zii j))] [] (zs M i B) (zVoid (zs M i (sPn B n))) := by
    intro n
    induction n with
    | zero =>
      intro j hj B hB hp
      refine Y_iload_1 i_X0_passOne_6 ?_
      refine X_bipush i_X0_passOne_7 (by decide +kernel) ?_
      refine X_icmp_ge i_X0_passOne_9 (tgt := 29) rfl ⟨by omega, by omega⟩ ⟨by omega, by omega⟩ (fun h9 => ?_) (fun h9 => by exfalso; omega)
      refine X_vret i_X0_passOne_29 rfl ?_
      exact zrv0 rfl
    | succ n ih =>
      intro j hj B hB hp
      have hB6 := hB.1
      unfold zH at hB6
      have hq := sPr_in hB.1
      have hq1 := sP1_64 B
      have hq2 := sP1_6 B 3 (by omega)
      have hn : ∀ {m : Nat}, sPn B (m + 1) = if sPr B < 0 then B else sPn (sP1 B) m := fun {m} => rfl
      refine Y_iload_1 i_X0_passOne_6 ?_
      refine X_bipush i_X0_passOne_7 (by decide +kernel) ?_
      refine X_icmp_ge i_X0_passOne_9 (tgt := 29) rfl ⟨by omega, by omega⟩ ⟨by omega, by omega⟩ (fun h9 => by exfalso; omega) (fun h9 => ?_)
      refine Y_aload_0 i_X0_passOne_12 ?_
      refine Y_callV (k' := kX0_pourOne) i_X0_passOne_13 l_X0_89 m_X0_pourOne (c_X0_pourOne hi hB (by omega)) (zao hi) rfl rfl rfl rfl ?_
      refine X_iconst i_X0_passOne_16 ?_
      refine Y_icmp_ne i_X0_passOne_17 (tgt := 23) rfl ⟨by omega, by omega⟩ ⟨by omega, by omega⟩ (fun h17 => ?_) (fun h17 => ?_)
      · refine Y_iinc_1 i_X0_passOne_23 rfl rfl ?_
        refine X_goto i_X0_passOne_26 (tgt := 6) rfl ?_
        exact X_eq (X_post (ih (j + 1) (by omega) (sP1 B) (sP1_ok hB (by omega)) (by omega)) (fun r M9 h9 => by rw [hn, if_neg (by omega)]; exact h9)) (by simp) rfl rfl
      · refine X_goto i_X0_passOne_20 (tgt := 29) rfl ?_
        refine X_vret i_X0_passOne_29 rfl ?_
        exact zrv0 (by rw [hn, if_pos (by omega)]; unfold sP1; rw [if_pos (by omega)])
  refine Y_aload_0 i_X0_passOne_0 ?_
  refine Y_callVv (k' := kX0_passUnserved) i_X0_passOne_1 l_X0_86 m_X0_passUnserved (c_X0_passUnserved hi hA) (zao hi) rfl rfl rfl rfl ?_
  refine X_iconst i_X0_passOne_4 ?_
  refine Y_istore_1 i_X0_passOne_5 rfl rfl ?_
  exact loop 6 0 (by omega) (sUns A) hU (by rw [sUns_6, sUns_6]; simp; omega)
set_option maxRecDepth 100000 in
theorem c_X0_pass {i : Nat} (hi : i < 3) {M : zMem} {A : zAft} {b : Int} (hA : zOk b A) (hb : b ≤ 2000) {t : Nat} (ht : t ≤ 1000) : zCt kX0_pass 4 [.ref (7 * i), .int (zii t)] ((zs M i A)) (zVoid (zs M i (sRun A t))) := by
  refine zMet (by decide) (Nat.le_of_ble_eq_true rfl) ?_
  show zX kX0_pass 4 0 [some (.ref (7 * i)), some (.int (zii t)), none] [] _ _
  have loop : ∀ (n : Nat) (j : Nat), j + n = t → zX kX0_pass 4 2 [some (.ref (7 * i)), some (.int (zii t)), some (.int (zii j))] [] (zs M i (sRun A j)) (zVoid (zs M i (sRun A t))) := by
    intro n
    induction n with
    | zero =>
      intro j hj
      obtain rfl : j = t := by omega
      refine Y_iload_2 i_X0_pass_2 ?_
      refine Y_iload_1 i_X0_pass_3 ?_
      refine X_icmp_ge i_X0_pass_4 (tgt := 17) rfl ⟨by omega, by omega⟩ ⟨by omega, by omega⟩ (fun h4 => ?_) (fun h4 => by exfalso; omega)
      refine X_vret i_X0_pass_17 rfl ?_
      exact zrv0 rfl
    | succ n ih =>
      intro j hj
      refine Y_iload_2 i_X0_pass_2 ?_
      refine Y_iload_1 i_X0_pass_3 ?_
      refine X_icmp_ge i_X0_pass_4 (tgt := 17) rfl ⟨by omega, by omega⟩ ⟨by omega, by omega⟩ (fun h4 => by exfalso; omega) (fun h4 => ?_)
      refine Y_aload_0 i_X0_pass_7 ?_
      refine Y_callVv (k' := kX0_passOne) i_X0_pass_8 l_X0_83 m_X0_passOne (c_X0_passOne hi (sRun_ok hA j) (by omega)) (zao hi) rfl rfl rfl rfl ?_
      refine Y_iinc_2 i_X0_pass_11 rfl rfl ?_
      refine X_goto i_X0_pass_14 (tgt := 2) rfl ?_
      exact X_eq (ih (j + 1) (by omega)) (by simp) rfl rfl
  refine X_iconst i_X0_pass_0 ?_
  refine Y_istore_2 i_X0_pass_1 rfl rfl ?_
  exact loop t 0 (by omega)
set_option maxRecDepth 100000 in
theorem c_X0_passTillGone {i : Nat} (hi : i < 3) {M : zMem} {A : zAft} {b : Int} (hA : zOk b A) (hb : b ≤ 2000) {x : Int} (x0 : 0 ≤ x) (x1 : x < 6) : zCt kX0_passTillGone 4 [.ref (7 * i), .int (zii x)] ((zs M i A)) (zRet (.int (zii (sFst (fun q => decide (sRun A q 3 x = 3)) 100 : Nat))) (zs M i (sRun A (sFst (fun q => decide (sRun A q 3 x = 3)) 100)))) := by
  refine zMet (by decide) (Nat.le_of_ble_eq_true rfl) ?_
  show zX kX0_passTillGone 4 0 [some (.ref (7 * i)), some (.int (zii x)), none] [] _ _
  have loop : ∀ (n : Nat) (j : Nat), j + n = 100 → (∀ q, q < j → (fun q => decide (sRun A q 3 x = 3)) q = false) → zX kX0_passTillGone 4 2 [some (.ref (7 * i)), some (.int (zii x)), some (.int (zii j))] [] (zs M i (sRun A j)) (zRet (.int (zii (sFst (fun q => decide (sRun A q 3 x = 3)) 100 : Nat))) (zs M i (sRun A (sFst (fun q => decide (sRun A q 3 x = 3)) 100)))) := by
    intro n
    induction n with
    | zero =>
      intro j hj hno
      obtain rfl : j = 100 := by omega
      have e9 := sFst_none (p := (fun q => decide (sRun A q 3 x = 3))) 100 hno
      refine Y_iload_2 i_X0_passTillGone_2 ?_
      refine X_bipush i_X0_passTillGone_3 (by decide +kernel) ?_
      refine X_icmp_gt i_X0_passTillGone_5 (tgt := 30) rfl ⟨by omega, by omega⟩ ⟨by omega, by omega⟩ (fun h5 => ?_) (fun h5 => by exfalso; omega)
      refine X_bipush i_X0_passTillGone_30 (by decide +kernel) ?_
      refine X_iret i_X0_passTillGone_32 rfl ?_
      exact ⟨by rw [e9]; rfl, by rw [e9]⟩
    | succ n ih =>
      intro j hj hno
      have hO := sRun_ok hA j
      have hgg := hO.2 x x0 x1
      unfold zG at hgg
      refine Y_iload_2 i_X0_passTillGone_2 ?_
      refine X_bipush i_X0_passTillGone_3 (by decide +kernel) ?_
      refine X_icmp_gt i_X0_passTillGone_5 (tgt := 30) rfl ⟨by omega, by omega⟩ ⟨by omega, by omega⟩ (fun h5 => by exfalso; omega) (fun h5 => ?_)
      refine Y_aload_0 i_X0_passTillGone_8 ?_
      refine X_getR i_X0_passTillGone_9 f_X0_21 (zaf_3 hi) ?_
      refine Y_iload_1 i_X0_passTillGone_12 ?_
      refine Y_iald i_X0_passTillGone_13 (zaa_3 hi) ⟨by omega, by omega⟩ rfl (zg0 _ _ _ _ _) ?_
      refine X_iconst i_X0_passTillGone_14 ?_
      refine Y_icmp_ne i_X0_passTillGone_15 (tgt := 20) rfl ⟨by omega, by omega⟩ ⟨by omega, by omega⟩ (fun h15 => ?_) (fun h15 => ?_)
      · refine Y_aload_0 i_X0_passTillGone_20 ?_
        refine Y_callVv (k' := kX0_passOne) i_X0_passTillGone_21 l_X0_83 m_X0_passOne (c_X0_passOne hi hO (by omega)) (zao hi) rfl rfl rfl rfl ?_
        refine Y_iinc_2 i_X0_passTillGone_24 rfl rfl ?_
        refine X_goto i_X0_passTillGone_27 (tgt := 2) rfl ?_
        exact X_eq (ih (j + 1) (by omega) (fun q hq => by
          by_cases e : q = j
          · subst e; exact decide_eq_false h15
          · exact hno q (by omega))) (by simp) rfl rfl
      · refine Y_iload_2 i_X0_passTillGone_18 ?_
        refine X_iret i_X0_passTillGone_19 rfl ?_
        have e9 := sFst_eq hno (decide_eq_true h15) 100 (by omega)
        exact ⟨by rw [e9], by rw [e9]⟩
  refine X_iconst i_X0_passTillGone_0 ?_
  refine Y_istore_2 i_X0_passTillGone_1 rfl rfl ?_
  exact loop 100 0 (by omega) (fun q h => absurd h (by omega))
set_option maxRecDepth 100000 in
theorem c_X0_passTillAllGoneBut {i : Nat} (hi : i < 3) {M : zMem} {A : zAft} {b : Int} (hA : zOk b A) (hb : b ≤ 2000) {x : Int} (hx : zR x) : zCt kX0_passTillAllGoneBut 4 [.ref (7 * i), .int (zii x)] ((zs M i A)) (zRet (.int (zii (sFst (fun q => decide (sAll (sRun A q) x (sG A) = true)) 100 : Nat))) (zs M i (sRun A (sFst (fun q => decide (sAll (sRun A q) x (sG A) = true)) 100)))) := by
  refine zMet (by decide) (Nat.le_of_ble_eq_true rfl) ?_
  show zX kX0_passTillAllGoneBut 4 0 [some (.ref (7 * i)), some (.int (zii x)), none] [] _ _
  have loop : ∀ (n : Nat) (j : Nat), j + n = 100 → (∀ q, q < j → (fun q => decide (sAll (sRun A q) x (sG A) = true)) q = false) → zX kX0_passTillAllGoneBut 4 2 [some (.ref (7 * i)), some (.int (zii x)), some (.int (zii j))] [] (zs M i (sRun A j)) (zRet (.int (zii (sFst (fun q => decide (sAll (sRun A q) x (sG A) = true)) 100 : Nat))) (zs M i (sRun A (sFst (fun q => decide (sAll (sRun A q) x (sG A) = true)) 100)))) := by
    intro n
    induction n with
    | zero =>
      intro j hj hno
      obtain rfl : j = 100 := by omega
      have e9 := sFst_none (p := (fun q => decide (sAll (sRun A q) x (sG A) = true))) 100 hno
      refine Y_iload_2 i_X0_passTillAllGoneBut_2 ?_
      refine X_bipush i_X0_passTillAllGoneBut_3 (by decide +kernel) ?_
      refine X_icmp_gt i_X0_passTillAllGoneBut_5 (tgt := 28) rfl ⟨by omega, by omega⟩ ⟨by omega, by omega⟩ (fun h5 => ?_) (fun h5 => by exfalso; omega)
      refine X_bipush i_X0_passTillAllGoneBut_28 (by decide +kernel) ?_
      refine X_iret i_X0_passTillAllGoneBut_30 rfl ?_
      exact ⟨by rw [e9]; rfl, by rw [e9]⟩
    | succ n ih =>
      intro j hj hno
      have hO := sRun_ok hA j
      refine Y_iload_2 i_X0_passTillAllGoneBut_2 ?_
      refine X_bipush i_X0_passTillAllGoneBut_3 (by decide +kernel) ?_
      refine X_icmp_gt i_X0_passTillAllGoneBut_5 (tgt := 28) rfl ⟨by omega, by omega⟩ ⟨by omega, by omega⟩ (fun h5 => by exfalso; omega) (fun h5 => ?_)
      refine Y_aload_0 i_X0_passTillAllGoneBut_8 ?_
      refine Y_iload_1 i_X0_passTillAllGoneBut_9 ?_
      refine Y_callV (k' := kX0_allGoneBut) i_X0_passTillAllGoneBut_10 l_X0_107 m_X0_allGoneBut (c_X0_allGoneBut hi (zs_self _ _ _) hO hx) (zao hi) rfl rfl rfl rfl ?_
      refine Y_ifq_eq i_X0_passTillAllGoneBut_13 (tgt := 18) rfl  (fun h13 => ?_) (fun h13 => ?_)
      · refine Y_aload_0 i_X0_passTillAllGoneBut_18 ?_
        refine Y_callVv (k' := kX0_passOne) i_X0_passTillAllGoneBut_19 l_X0_83 m_X0_passOne (c_X0_passOne hi hO (by omega)) (zao hi) rfl rfl rfl rfl ?_
        refine Y_iinc_2 i_X0_passTillAllGoneBut_22 rfl rfl ?_
        refine X_goto i_X0_passTillAllGoneBut_25 (tgt := 2) rfl ?_
        exact X_eq (ih (j + 1) (by omega) (fun q hq => by
          by_cases e : q = j
          · subst e; exact decide_eq_false (by rw [← sRun_G A q]; exact h13)
          · exact hno q (by omega))) (by simp) rfl rfl
      · refine Y_iload_2 i_X0_passTillAllGoneBut_16 ?_
        refine X_iret i_X0_passTillAllGoneBut_17 rfl ?_
        have e9 := sFst_eq hno (decide_eq_true (by rw [← sRun_G A j]; exact h13)) 100 (by omega)
        exact ⟨by rw [e9], by rw [e9]⟩
  refine X_iconst i_X0_passTillAllGoneBut_0 ?_
  refine Y_istore_2 i_X0_passTillAllGoneBut_1 rfl rfl ?_
  exact loop 100 0 (by omega) (fun q h => absurd h (by omega))
theorem zR_and1 (x : Int) : 0 ≤ zand x 1 ∧ zand x 1 ≤ 1 := by
  have h : ∀ y : Int32, 0 ≤ (y &&& 1).toInt ∧ (y &&& 1).toInt ≤ 1 := by
    intro y
    have e : (y &&& 1).toBitVec = y.toBitVec &&& 1#32 := rfl
    have h2 : (y &&& 1).toBitVec.toNat = y.toBitVec.toNat % 2 := by rw [e, BitVec.toNat_and]; exact Nat.and_one_is_mod _
    have h3 : (y &&& 1).toInt = (y &&& 1).toBitVec.toInt := rfl
    rw [h3, BitVec.toInt_eq_toNat_of_lt (by omega)]
    omega
  exact h (zii x)
theorem sBit_in (x g : Int) : 0 ≤ sBit x g ∧ sBit x g ≤ 1 := zR_and1 _
set_option maxRecDepth 100000 in
theorem c_X0_riseAll {i : Nat} (hi : i < 3) {M : zMem} {A : zAft} {b : Int} (hA : zOk b A) {x : Int} : zCt kX0_riseAll 1 [.ref (7 * i), .int (zii x)] ((zs M i A)) (zVoid (zs M i (sRi A x (sG A)))) := by
  have h6 := hA.1.1
  have hG := sG_le hA.1
  refine zMet (by decide) (Nat.le_of_ble_eq_true rfl) ?_
  show zX kX0_riseAll 1 0 [some (.ref (7 * i)), some (.int (zii x)), none] [] _ _
  have loop : ∀ (n : Nat) (g : Nat), g + n = sG A → zX kX0_riseAll 1 2 [some (.ref (7 * i)), some (.int (zii x)), some (.int (zii g))] [] (zs M i (sRi A x g)) (zVoid (zs M i (sRi A x (sG A)))) := by
    intro n
    induction n with
    | zero =>
      intro g hg
      obtain rfl : g = sG A := by omega
      have h60 : sRi A x (sG A) 6 0 = A 6 0 := by rw [sRi_6]
      refine Y_iload_2 i_X0_riseAll_2 ?_
      refine Y_aload_0 i_X0_riseAll_3 ?_
      refine Y_getI i_X0_riseAll_4 f_X0_30 (zaf_6 hi) (zg0 _ _ _ _ _) ?_
      refine X_icmp_ge i_X0_riseAll_7 (tgt := 39) rfl ⟨by omega, by omega⟩ ⟨by omega, by omega⟩ (fun h7 => ?_) (fun h7 => by exfalso; omega)
      refine X_vret i_X0_riseAll_39 rfl ?_
      exact zrv0 rfl
    | succ n ih =>
      intro g hg
      have h60 : sRi A x g 6 0 = A 6 0 := by rw [sRi_6]
      have h3g : sRi A x g 3 g = A 3 g := sRi_ge A x g 3 g (Int.le_refl _)
      have hgg := hA.2 g (by omega) (by omega)
      unfold zG at hgg
      have hbb : zand (zshr x g) 1 = sBit x g := rfl
      have hbr := sBit_in x g
      refine Y_iload_2 i_X0_riseAll_2 ?_
      refine Y_aload_0 i_X0_riseAll_3 ?_
      refine Y_getI i_X0_riseAll_4 f_X0_30 (zaf_6 hi) (zg0 _ _ _ _ _) ?_
      refine X_icmp_ge i_X0_riseAll_7 (tgt := 39) rfl ⟨by omega, by omega⟩ ⟨by omega, by omega⟩ (fun h7 => by exfalso; omega) (fun h7 => ?_)
      refine Y_iload_1 i_X0_riseAll_10 ?_
      refine Y_iload_2 i_X0_riseAll_11 ?_
      refine X_ishr i_X0_riseAll_12 ?_
      refine X_iconst i_X0_riseAll_13 ?_
      refine X_iand i_X0_riseAll_14 ?_
      refine X_iconst i_X0_riseAll_15 ?_
      refine Y_icmp_ne i_X0_riseAll_16 (tgt := 33) rfl ⟨by omega, by omega⟩ ⟨by omega, by omega⟩ (fun h16 => ?_) (fun h16 => ?_)
      · refine Y_iinc_2 i_X0_riseAll_33 rfl rfl ?_
        refine X_goto i_X0_riseAll_36 (tgt := 2) rfl ?_
        exact X_eq (ih (g + 1) (by omega)) (by simp) rfl (congrArg (zs M i) (by simp only [sRi]; rw [if_neg (by omega)]))
      · refine Y_aload_0 i_X0_riseAll_19 ?_
        refine X_getR i_X0_riseAll_20 f_X0_21 (zaf_3 hi) ?_
        refine Y_iload_2 i_X0_riseAll_23 ?_
        refine Y_iald i_X0_riseAll_24 (zaa_3 hi) ⟨by omega, by omega⟩ rfl (zg0 _ _ _ _ _) ?_
        refine Y_if_ne i_X0_riseAll_25 (tgt := 33) rfl ⟨by omega, by omega⟩ (fun h25 => ?_) (fun h25 => ?_)
        · refine Y_iinc_2 i_X0_riseAll_33 rfl rfl ?_
          refine X_goto i_X0_riseAll_36 (tgt := 2) rfl ?_
          exact X_eq (ih (g + 1) (by omega)) (by simp) rfl (congrArg (zs M i) (by simp only [sRi]; rw [if_neg (by omega)]))
        · refine Y_aload_0 i_X0_riseAll_28 ?_
          refine Y_iload_2 i_X0_riseAll_29 ?_
          refine Y_callVv (k' := kX0_rise) i_X0_riseAll_30 l_X0_64 m_X0_rise (c_X0_rise hi (by omega) (by omega)) (zao hi) rfl rfl rfl rfl ?_
          refine Y_iinc_2 i_X0_riseAll_33 rfl rfl ?_
          refine X_goto i_X0_riseAll_36 (tgt := 2) rfl ?_
          exact X_eq (ih (g + 1) (by omega)) (by simp) rfl (congrArg (zs M i) (by simp only [sRi]; rw [if_pos (by omega)]))
  refine X_iconst i_X0_riseAll_0 ?_
  refine Y_istore_2 i_X0_riseAll_1 rfl rfl ?_
  exact loop (sG A) 0 (by omega)
set_option maxRecDepth 100000 in
theorem c_X0_copyFrom {i : Nat} (hi : i < 3) {M : zMem} {A : zAft} {j : Nat} (hj : j < 3) (hne : (j == i) = false) : zCt kX0_copyFrom 1 [.ref (7 * i), .ref (7 * j)] ((zs M i A)) (zVoid (zs M i (M j))) := by
  refine zMet (by decide) (Nat.le_of_ble_eq_true rfl) ?_
  show zX kX0_copyFrom 1 0 [some (.ref (7 * i)), some (.ref (7 * j))] [] _ _
  refine Y_aload_1 i_X0_copyFrom_0 ?_
  refine X_getR i_X0_copyFrom_1 f_X0_9 (zaf_0 hj) ?_
  refine X_iconst i_X0_copyFrom_4 ?_
  refine Y_aload_0 i_X0_copyFrom_5 ?_
  refine X_getR i_X0_copyFrom_6 f_X0_9 (zaf_0 hi) ?_
  refine X_iconst i_X0_copyFrom_9 ?_
  refine X_bipush i_X0_copyFrom_10 (by decide +kernel) ?_
  refine Y_copy i_X0_copyFrom_12 l_X0_46 l_copy (zaa_0 hi) (zaa_0 hj) ⟨by decide, by decide, by decide⟩ (by decide) (by decide) rfl (zcp0 hne) ?_
  refine Y_aload_1 i_X0_copyFrom_15 ?_
  refine X_getR i_X0_copyFrom_16 f_X0_15 (zaf_1 hj) ?_
  refine X_iconst i_X0_copyFrom_19 ?_
  refine Y_aload_0 i_X0_copyFrom_20 ?_
  refine X_getR i_X0_copyFrom_21 f_X0_15 (zaf_1 hi) ?_
  refine X_iconst i_X0_copyFrom_24 ?_
  refine X_bipush i_X0_copyFrom_25 (by decide +kernel) ?_
  refine Y_copy i_X0_copyFrom_27 l_X0_46 l_copy (zaa_1 hi) (zaa_1 hj) ⟨by decide, by decide, by decide⟩ (by decide) (by decide) rfl (zcp0 hne) ?_
  refine Y_aload_1 i_X0_copyFrom_30 ?_
  refine X_getR i_X0_copyFrom_31 f_X0_18 (zaf_2 hj) ?_
  refine X_iconst i_X0_copyFrom_34 ?_
  refine Y_aload_0 i_X0_copyFrom_35 ?_
  refine X_getR i_X0_copyFrom_36 f_X0_18 (zaf_2 hi) ?_
  refine X_iconst i_X0_copyFrom_39 ?_
  refine X_bipush i_X0_copyFrom_40 (by decide +kernel) ?_
  refine Y_copy i_X0_copyFrom_42 l_X0_46 l_copy (zaa_2 hi) (zaa_2 hj) ⟨by decide, by decide, by decide⟩ (by decide) (by decide) rfl (zcp0 hne) ?_
  refine Y_aload_1 i_X0_copyFrom_45 ?_
  refine X_getR i_X0_copyFrom_46 f_X0_21 (zaf_3 hj) ?_
  refine X_iconst i_X0_copyFrom_49 ?_
  refine Y_aload_0 i_X0_copyFrom_50 ?_
  refine X_getR i_X0_copyFrom_51 f_X0_21 (zaf_3 hi) ?_
  refine X_iconst i_X0_copyFrom_54 ?_
  refine X_bipush i_X0_copyFrom_55 (by decide +kernel) ?_
  refine Y_copy i_X0_copyFrom_57 l_X0_46 l_copy (zaa_3 hi) (zaa_3 hj) ⟨by decide, by decide, by decide⟩ (by decide) (by decide) rfl (zcp0 hne) ?_
  refine Y_aload_1 i_X0_copyFrom_60 ?_
  refine X_getR i_X0_copyFrom_61 f_X0_24 (zaf_4 hj) ?_
  refine X_iconst i_X0_copyFrom_64 ?_
  refine Y_aload_0 i_X0_copyFrom_65 ?_
  refine X_getR i_X0_copyFrom_66 f_X0_24 (zaf_4 hi) ?_
  refine X_iconst i_X0_copyFrom_69 ?_
  refine X_bipush i_X0_copyFrom_70 (by decide +kernel) ?_
  refine Y_copy i_X0_copyFrom_72 l_X0_46 l_copy (zaa_4 hi) (zaa_4 hj) ⟨by decide, by decide, by decide⟩ (by decide) (by decide) rfl (zcp0 hne) ?_
  refine Y_aload_1 i_X0_copyFrom_75 ?_
  refine X_getR i_X0_copyFrom_76 f_X0_27 (zaf_5 hj) ?_
  refine X_iconst i_X0_copyFrom_79 ?_
  refine Y_aload_0 i_X0_copyFrom_80 ?_
  refine X_getR i_X0_copyFrom_81 f_X0_27 (zaf_5 hi) ?_
  refine X_iconst i_X0_copyFrom_84 ?_
  refine X_bipush i_X0_copyFrom_85 (by decide +kernel) ?_
  refine Y_copy i_X0_copyFrom_87 l_X0_46 l_copy (zaa_5 hi) (zaa_5 hj) ⟨by decide, by decide, by decide⟩ (by decide) (by decide) rfl (zcp0 hne) ?_
  refine Y_aload_0 i_X0_copyFrom_90 ?_
  refine Y_aload_1 i_X0_copyFrom_91 ?_
  refine Y_getI i_X0_copyFrom_92 f_X0_30 (zaf_6 hj) (zg1 hne rfl) ?_
  refine Y_putI i_X0_copyFrom_95 f_X0_30 (zaf_6 hi) t_0_6 (zp0 _ _ _ _ _ _) ?_
  refine Y_aload_0 i_X0_copyFrom_98 ?_
  refine Y_aload_1 i_X0_copyFrom_99 ?_
  refine Y_getI i_X0_copyFrom_100 f_X0_34 (zaf_7 hj) (zg1 hne rfl) ?_
  refine Y_putI i_X0_copyFrom_103 f_X0_34 (zaf_7 hi) t_0_7 (zp0 _ _ _ _ _ _) ?_
  refine Y_aload_0 i_X0_copyFrom_106 ?_
  refine Y_aload_1 i_X0_copyFrom_107 ?_
  refine Y_getI i_X0_copyFrom_108 f_X0_37 (zaf_8 hj) (zg1 hne rfl) ?_
  refine Y_putI i_X0_copyFrom_111 f_X0_37 (zaf_8 hi) t_0_8 (zp0 _ _ _ _ _ _) ?_
  refine Y_aload_0 i_X0_copyFrom_114 ?_
  refine Y_aload_1 i_X0_copyFrom_115 ?_
  refine Y_getI i_X0_copyFrom_116 f_X0_40 (zaf_9 hj) (zg1 hne rfl) ?_
  refine Y_putI i_X0_copyFrom_119 f_X0_40 (zaf_9 hi) t_0_9 (zp0 _ _ _ _ _ _) ?_
  refine Y_aload_0 i_X0_copyFrom_122 ?_
  refine Y_aload_1 i_X0_copyFrom_123 ?_
  refine Y_getI i_X0_copyFrom_124 f_X0_43 (zaf_10 hj) (zg1 hne rfl) ?_
  refine Y_putI i_X0_copyFrom_127 f_X0_43 (zaf_10 hi) t_0_10 (zp0 _ _ _ _ _ _) ?_
  refine X_aft (B := M j) (by omega) ⟨?_, ?_⟩ ?_
  · intro r x hr hx0 hx1
    rcases (by omega : r = 0 ∨ r = 1 ∨ r = 2 ∨ r = 3 ∨ r = 4 ∨ r = 5) with hr | hr | hr | hr | hr | hr
    all_goals subst hr
    all_goals simp [zwr, zcpA, hx0, hx1]
  · intro x hx0 hx1
    rcases (by omega : x = 0 ∨ x = 1 ∨ x = 2 ∨ x = 3 ∨ x = 4) with hx | hx | hx | hx | hx
    all_goals subst hx
    all_goals simp [zwr, zcpA]
  refine X_vret i_X0_copyFrom_130 rfl ?_
  exact zrv0 rfl
