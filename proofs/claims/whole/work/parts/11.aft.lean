theorem zaf_0 {i : Nat} (hi : i < 3) : zfld (7 * i) 0 0 = some (.inl (7 * i + 1)) := by match i, hi with | 0, _ => rfl | 1, _ => rfl | 2, _ => rfl
theorem zaf_1 {i : Nat} (hi : i < 3) : zfld (7 * i) 0 1 = some (.inl (7 * i + 2)) := by match i, hi with | 0, _ => rfl | 1, _ => rfl | 2, _ => rfl
theorem zaf_2 {i : Nat} (hi : i < 3) : zfld (7 * i) 0 2 = some (.inl (7 * i + 3)) := by match i, hi with | 0, _ => rfl | 1, _ => rfl | 2, _ => rfl
theorem zaf_3 {i : Nat} (hi : i < 3) : zfld (7 * i) 0 3 = some (.inl (7 * i + 4)) := by match i, hi with | 0, _ => rfl | 1, _ => rfl | 2, _ => rfl
theorem zaf_4 {i : Nat} (hi : i < 3) : zfld (7 * i) 0 4 = some (.inl (7 * i + 5)) := by match i, hi with | 0, _ => rfl | 1, _ => rfl | 2, _ => rfl
theorem zaf_5 {i : Nat} (hi : i < 3) : zfld (7 * i) 0 5 = some (.inl (7 * i + 6)) := by match i, hi with | 0, _ => rfl | 1, _ => rfl | 2, _ => rfl
theorem zaf_6 {i : Nat} (hi : i < 3) : zfld (7 * i) 0 6 = some (.inr (i, 6, 0)) := by match i, hi with | 0, _ => rfl | 1, _ => rfl | 2, _ => rfl
theorem zaf_7 {i : Nat} (hi : i < 3) : zfld (7 * i) 0 7 = some (.inr (i, 6, 1)) := by match i, hi with | 0, _ => rfl | 1, _ => rfl | 2, _ => rfl
theorem zaf_8 {i : Nat} (hi : i < 3) : zfld (7 * i) 0 8 = some (.inr (i, 6, 2)) := by match i, hi with | 0, _ => rfl | 1, _ => rfl | 2, _ => rfl
theorem zaf_9 {i : Nat} (hi : i < 3) : zfld (7 * i) 0 9 = some (.inr (i, 6, 3)) := by match i, hi with | 0, _ => rfl | 1, _ => rfl | 2, _ => rfl
theorem zaf_10 {i : Nat} (hi : i < 3) : zfld (7 * i) 0 10 = some (.inr (i, 6, 4)) := by match i, hi with | 0, _ => rfl | 1, _ => rfl | 2, _ => rfl
theorem zaa_0 {i : Nat} (hi : i < 3) : zarr (7 * i + 1) = some (6, i, 0) := by match i, hi with | 0, _ => rfl | 1, _ => rfl | 2, _ => rfl
theorem zaa_1 {i : Nat} (hi : i < 3) : zarr (7 * i + 2) = some (6, i, 1) := by match i, hi with | 0, _ => rfl | 1, _ => rfl | 2, _ => rfl
theorem zaa_2 {i : Nat} (hi : i < 3) : zarr (7 * i + 3) = some (6, i, 2) := by match i, hi with | 0, _ => rfl | 1, _ => rfl | 2, _ => rfl
theorem zaa_3 {i : Nat} (hi : i < 3) : zarr (7 * i + 4) = some (6, i, 3) := by match i, hi with | 0, _ => rfl | 1, _ => rfl | 2, _ => rfl
theorem zaa_4 {i : Nat} (hi : i < 3) : zarr (7 * i + 5) = some (6, i, 4) := by match i, hi with | 0, _ => rfl | 1, _ => rfl | 2, _ => rfl
theorem zaa_5 {i : Nat} (hi : i < 3) : zarr (7 * i + 6) = some (6, i, 5) := by match i, hi with | 0, _ => rfl | 1, _ => rfl | 2, _ => rfl
theorem zao {i : Nat} (hi : i < 3) : zob (7 * i) = some 0 := by match i, hi with | 0, _ => rfl | 1, _ => rfl | 2, _ => rfl
set_option maxRecDepth 100000 in
theorem c_X5_limit {k f : Int} {M : zMem} (hk : 0 ≤ k ∧ k ≤ 5) (hf : 0 ≤ f ∧ f ≤ 9) : zCt kX5_limit 0 [.int (zii k), .int (zii f)] M (zRet (.int (zii (sLim k f))) M) := by
  have hd : zdiv (4 + f) 2 = (4 + f) / 2 := zdiv_pos ⟨by omega, by omega⟩ (by omega) ⟨by omega, by omega⟩ (by omega)
  refine zMet (by decide) (Nat.le_of_ble_eq_true rfl) ?_
  show zX kX5_limit 0 0 [some (.int (zii k)), some (.int (zii f)), none] [] _ _
  refine X_iconst i_X5_limit_0 ?_
  refine Y_iload_1 i_X5_limit_1 ?_
  refine X_iadd i_X5_limit_2 ?_
  refine Y_istore_2 i_X5_limit_3 rfl rfl ?_
  refine Y_iload_0 i_X5_limit_4 ?_
  rcases (by omega : k = 0 ∨ k = 1 ∨ k = 2 ∨ k = 3 ∨ k = 4 ∨ k = 5) with hsw | hsw | hsw | hsw | hsw | hsw
  · refine X_tabOut i_X5_limit_5 ⟨by omega, by omega⟩ (by omega) (tgt := 60) rfl ?_
    refine Y_iload_2 i_X5_limit_60 ?_
    refine X_iret i_X5_limit_61 rfl ?_
    exact ⟨by simp [sLim, hsw, hd], rfl⟩
  · refine X_tabIn i_X5_limit_5 ⟨by omega, by omega⟩ (by omega) (by omega) (off := 35) (by rw [hsw]; rfl) (tgt := 40) rfl ?_
    refine Y_iload_2 i_X5_limit_40 ?_
    refine X_iconst i_X5_limit_41 ?_
    refine X_idiv i_X5_limit_42 ⟨by omega, by omega⟩ (by omega) ?_
    refine X_iret i_X5_limit_43 rfl ?_
    exact ⟨by simp [sLim, hsw, hd], rfl⟩
  · refine X_tabIn i_X5_limit_5 ⟨by omega, by omega⟩ (by omega) (by omega) (off := 39) (by rw [hsw]; rfl) (tgt := 44) rfl ?_
    refine Y_iload_2 i_X5_limit_44 ?_
    refine X_bipush i_X5_limit_45 (by decide +kernel) ?_
    refine X_iadd i_X5_limit_47 ?_
    refine X_iret i_X5_limit_48 rfl ?_
    exact ⟨by simp [sLim, hsw, hd], rfl⟩
  · refine X_tabIn i_X5_limit_5 ⟨by omega, by omega⟩ (by omega) (by omega) (off := 44) (by rw [hsw]; rfl) (tgt := 49) rfl ?_
    refine Y_iload_2 i_X5_limit_49 ?_
    refine X_iconst i_X5_limit_50 ?_
    refine X_idiv i_X5_limit_51 ⟨by omega, by omega⟩ (by omega) ?_
    refine X_iconst i_X5_limit_52 ?_
    refine X_iadd i_X5_limit_53 ?_
    refine X_iret i_X5_limit_54 rfl ?_
    exact ⟨by simp [sLim, hsw, hd], rfl⟩
  · refine X_tabIn i_X5_limit_5 ⟨by omega, by omega⟩ (by omega) (by omega) (off := 50) (by rw [hsw]; rfl) (tgt := 55) rfl ?_
    refine X_iconst i_X5_limit_55 ?_
    refine X_iret i_X5_limit_56 rfl ?_
    exact ⟨by simp [sLim, hsw, hd], rfl⟩
  · refine X_tabIn i_X5_limit_5 ⟨by omega, by omega⟩ (by omega) (by omega) (off := 52) (by rw [hsw]; rfl) (tgt := 57) rfl ?_
    refine X_bipush i_X5_limit_57 (by decide +kernel) ?_
    refine X_iret i_X5_limit_59 rfl ?_
    exact ⟨by simp [sLim, hsw, hd], rfl⟩
set_option maxRecDepth 100000 in
theorem c_X5_patience {k f : Int} {M : zMem} (hk : 0 ≤ k ∧ k ≤ 5) (hf : 0 ≤ f ∧ f ≤ 9) : zCt kX5_patience 0 [.int (zii k), .int (zii f)] M (zRet (.int (zii (sPat k f))) M) := by
  refine zMet (by decide) (Nat.le_of_ble_eq_true rfl) ?_
  show zX kX5_patience 0 0 [some (.int (zii k)), some (.int (zii f))] [] _ _
  refine Y_iload_0 i_X5_patience_0 ?_
  rcases (by omega : k = 0 ∨ k = 1 ∨ k = 2 ∨ k = 3 ∨ k = 4 ∨ k = 5) with hsw | hsw | hsw | hsw | hsw | hsw
  · refine X_tabOut i_X5_patience_1 ⟨by omega, by omega⟩ (by omega) (tgt := 45) rfl ?_
    refine X_iconst i_X5_patience_45 ?_
    refine X_iret i_X5_patience_46 rfl ?_
    exact ⟨by simp [sPat, hsw], rfl⟩
  · refine X_tabIn i_X5_patience_1 ⟨by omega, by omega⟩ (by omega) (by omega) (off := 35) (by rw [hsw]; rfl) (tgt := 36) rfl ?_
    refine X_iconst i_X5_patience_36 ?_
    refine Y_iload_1 i_X5_patience_37 ?_
    refine X_iadd i_X5_patience_38 ?_
    refine X_iret i_X5_patience_39 rfl ?_
    exact ⟨by simp [sPat, hsw], rfl⟩
  · refine X_tabIn i_X5_patience_1 ⟨by omega, by omega⟩ (by omega) (by omega) (off := 39) (by rw [hsw]; rfl) (tgt := 40) rfl ?_
    refine X_bipush i_X5_patience_40 (by decide +kernel) ?_
    refine X_iret i_X5_patience_42 rfl ?_
    exact ⟨by simp [sPat, hsw], rfl⟩
  · refine X_tabIn i_X5_patience_1 ⟨by omega, by omega⟩ (by omega) (by omega) (off := 35) (by rw [hsw]; rfl) (tgt := 36) rfl ?_
    refine X_iconst i_X5_patience_36 ?_
    refine Y_iload_1 i_X5_patience_37 ?_
    refine X_iadd i_X5_patience_38 ?_
    refine X_iret i_X5_patience_39 rfl ?_
    exact ⟨by simp [sPat, hsw], rfl⟩
  · refine X_tabIn i_X5_patience_1 ⟨by omega, by omega⟩ (by omega) (by omega) (off := 42) (by rw [hsw]; rfl) (tgt := 43) rfl ?_
    refine X_iconst i_X5_patience_43 ?_
    refine X_iret i_X5_patience_44 rfl ?_
    exact ⟨by simp [sPat, hsw], rfl⟩
  · refine X_tabIn i_X5_patience_1 ⟨by omega, by omega⟩ (by omega) (by omega) (off := 39) (by rw [hsw]; rfl) (tgt := 40) rfl ?_
    refine X_bipush i_X5_patience_40 (by decide +kernel) ?_
    refine X_iret i_X5_patience_42 rfl ?_
    exact ⟨by simp [sPat, hsw], rfl⟩
set_option maxRecDepth 100000 in
theorem c_X5_sip {k : Int} {M : zMem} (hk : 0 ≤ k ∧ k ≤ 5) : zCt kX5_sip 0 [.int (zii k)] M (zRet (.int (zii (sSip k))) M) := by
  refine zMet (by decide) (Nat.le_of_ble_eq_true rfl) ?_
  show zX kX5_sip 0 0 [some (.int (zii k))] [] _ _
  refine Y_iload_0 i_X5_sip_0 ?_
  rcases (by omega : k = 0 ∨ k = 1 ∨ k = 2 ∨ k = 3 ∨ k = 4 ∨ k = 5) with hsw | hsw | hsw | hsw | hsw | hsw
  · refine X_look i_X5_sip_1 (by decide) ⟨by omega, by omega⟩ (off := 31) (by rw [hsw]; decide) (tgt := 32) rfl ?_
    refine X_iconst i_X5_sip_32 ?_
    refine X_iret i_X5_sip_33 rfl ?_
    exact ⟨by simp [sSip, hsw], rfl⟩
  · refine X_look i_X5_sip_1 (by decide) ⟨by omega, by omega⟩ (off := 31) (by rw [hsw]; decide) (tgt := 32) rfl ?_
    refine X_iconst i_X5_sip_32 ?_
    refine X_iret i_X5_sip_33 rfl ?_
    exact ⟨by simp [sSip, hsw], rfl⟩
  · refine X_look i_X5_sip_1 (by decide) ⟨by omega, by omega⟩ (off := 31) (by rw [hsw]; decide) (tgt := 32) rfl ?_
    refine X_iconst i_X5_sip_32 ?_
    refine X_iret i_X5_sip_33 rfl ?_
    exact ⟨by simp [sSip, hsw], rfl⟩
  · refine X_look i_X5_sip_1 (by decide) ⟨by omega, by omega⟩ (off := 27) (by rw [hsw]; decide) (tgt := 28) rfl ?_
    refine X_iconst i_X5_sip_28 ?_
    refine X_iret i_X5_sip_29 rfl ?_
    exact ⟨by simp [sSip, hsw], rfl⟩
  · refine X_look i_X5_sip_1 (by decide) ⟨by omega, by omega⟩ (off := 29) (by rw [hsw]; decide) (tgt := 30) rfl ?_
    refine X_iconst i_X5_sip_30 ?_
    refine X_iret i_X5_sip_31 rfl ?_
    exact ⟨by simp [sSip, hsw], rfl⟩
  · refine X_look i_X5_sip_1 (by decide) ⟨by omega, by omega⟩ (off := 31) (by rw [hsw]; decide) (tgt := 32) rfl ?_
    refine X_iconst i_X5_sip_32 ?_
    refine X_iret i_X5_sip_33 rfl ?_
    exact ⟨by simp [sSip, hsw], rfl⟩
set_option maxRecDepth 100000 in
theorem c_X5_enough {k f : Int} {M : zMem} (hk : 0 ≤ k ∧ k ≤ 5) (hf : 0 ≤ f ∧ f ≤ 9) : zCt kX5_enough 0 [.int (zii k), .int (zii f)] M (zRet (.int (zii (sEno k f))) M) := by
  have hd : zdiv f 3 = f / 3 := zdiv_pos ⟨by omega, by omega⟩ (by omega) ⟨by omega, by omega⟩ (by omega)
  refine zMet (by decide) (Nat.le_of_ble_eq_true rfl) ?_
  show zX kX5_enough 0 0 [some (.int (zii k)), some (.int (zii f))] [] _ _
  refine Y_iload_0 i_X5_enough_0 ?_
  rcases (by omega : k = 0 ∨ k = 1 ∨ k = 2 ∨ k = 3 ∨ k = 4 ∨ k = 5) with hsw | hsw | hsw | hsw | hsw | hsw
  · refine X_look i_X5_enough_1 (by decide) ⟨by omega, by omega⟩ (off := 39) (by rw [hsw]; decide) (tgt := 40) rfl ?_
    refine X_iconst i_X5_enough_40 ?_
    refine X_iret i_X5_enough_41 rfl ?_
    exact ⟨by simp [sEno, hsw, hd], rfl⟩
  · refine X_look i_X5_enough_1 (by decide) ⟨by omega, by omega⟩ (off := 27) (by rw [hsw]; decide) (tgt := 28) rfl ?_
    refine X_iconst i_X5_enough_28 ?_
    refine Y_iload_1 i_X5_enough_29 ?_
    refine X_iconst i_X5_enough_30 ?_
    refine X_idiv i_X5_enough_31 ⟨by omega, by omega⟩ (by omega) ?_
    refine X_iadd i_X5_enough_32 ?_
    refine X_iret i_X5_enough_33 rfl ?_
    exact ⟨by simp [sEno, hsw, hd], rfl⟩
  · refine X_look i_X5_enough_1 (by decide) ⟨by omega, by omega⟩ (off := 39) (by rw [hsw]; decide) (tgt := 40) rfl ?_
    refine X_iconst i_X5_enough_40 ?_
    refine X_iret i_X5_enough_41 rfl ?_
    exact ⟨by simp [sEno, hsw, hd], rfl⟩
  · refine X_look i_X5_enough_1 (by decide) ⟨by omega, by omega⟩ (off := 33) (by rw [hsw]; decide) (tgt := 34) rfl ?_
    refine X_iconst i_X5_enough_34 ?_
    refine Y_iload_1 i_X5_enough_35 ?_
    refine X_iconst i_X5_enough_36 ?_
    refine X_idiv i_X5_enough_37 ⟨by omega, by omega⟩ (by omega) ?_
    refine X_iadd i_X5_enough_38 ?_
    refine X_iret i_X5_enough_39 rfl ?_
    exact ⟨by simp [sEno, hsw, hd], rfl⟩
  · refine X_look i_X5_enough_1 (by decide) ⟨by omega, by omega⟩ (off := 39) (by rw [hsw]; decide) (tgt := 40) rfl ?_
    refine X_iconst i_X5_enough_40 ?_
    refine X_iret i_X5_enough_41 rfl ?_
    exact ⟨by simp [sEno, hsw, hd], rfl⟩
  · refine X_look i_X5_enough_1 (by decide) ⟨by omega, by omega⟩ (off := 39) (by rw [hsw]; decide) (tgt := 40) rfl ?_
    refine X_iconst i_X5_enough_40 ?_
    refine X_iret i_X5_enough_41 rfl ?_
    exact ⟨by simp [sEno, hsw, hd], rfl⟩
theorem zri {a b : Int} {M : zMem} (h : a = b) : zRet (.int (zii b)) M (some (.int (zii a))) M := ⟨by rw [h], rfl⟩
theorem zrl {a b : Int} {M : zMem} (h : a = b) : zRet (.long (zll b)) M (some (.long (zll a))) M := ⟨by rw [h], rfl⟩
theorem zrv0 {M M' : zMem} (h : M' = M) : zVoid M none M' := ⟨rfl, h⟩
theorem X_mmax {k : zMD} {d pc nx idx : Nat} {lo : List (Option Value)} {st : List Value} {M : zMem} {Q : Option Value → zMem → Prop} {a b : Int} (hi : zI k pc (.invokestatic idx) 3 nx) (hl : Cond.methodLink k.1.cls idx kJ9_max_7cf53.1 ∈ zt) (hm : zMS kJ9_max_7cf53 2) (ha : zR a) (hb9 : zR b) (hd1 : Nat.ble 1 d = true) (hst : Nat.ble ((st.map fun v => v.category).sum) 8 = true) (h : zX k d nx lo (.int (zii (if b ≤ a then a else b)) :: st) M Q) : zX k d pc lo (.int (zii b) :: .int (zii a) :: st) M Q := by
  have hd1 := Nat.le_of_ble_eq_true hd1
  have hst := Nat.le_of_ble_eq_true hst
  intro ad dC dI cA p l e s m args below meth c H locs ls hC hP hS hL
  have kk := h ad dC dI cA p l e s m args below meth c H locs ls hC hP hS hL
  obtain ⟨hd, rfl⟩ := hi
  obtain ⟨hx, hb, hr, hml, hown, hts, hlk, hK, hinj, hnw⟩ := hC
  obtain ⟨⟨hcode, hini, -, -⟩, hstat⟩ := hm
  have hst' : ((st.map (zrv ad)).map fun v => v.category).sum ≤ 8 := by
    rw [List.map_map]
    have : ((fun v : Value => v.category) ∘ zrv ad) = fun v => v.category := funext fun v => zrv_cat ad v
    rw [this]; exact hst
  · refine va_mmax hx hb (hml.trans hL.1.symm) hown (hts _ hl) (hts _ hstat) (hts _ hini) (hts _ hcode) hd1 (by show _ ≤ 36 * d; omega) (Nat.zero_le _) (Nat.zero_le _) hd ?_
    have e9 : (if zii a < zii b then zii b else zii a) = zii (if b ≤ a then a else b) := by
      simp only [zii_lt ha hb9]
      by_cases q : b ≤ a
      · rw [if_neg (by omega), if_pos q]
      · rw [if_pos (by omega), if_neg q]
    rw [e9]
    exact kk
theorem X_mmin {k : zMD} {d pc nx idx : Nat} {lo : List (Option Value)} {st : List Value} {M : zMem} {Q : Option Value → zMem → Prop} {a b : Int} (hi : zI k pc (.invokestatic idx) 3 nx) (hl : Cond.methodLink k.1.cls idx kJ9_min_7cf53.1 ∈ zt) (hm : zMS kJ9_min_7cf53 2) (ha : zR a) (hb9 : zR b) (hd1 : Nat.ble 1 d = true) (hst : Nat.ble ((st.map fun v => v.category).sum) 8 = true) (h : zX k d nx lo (.int (zii (if a ≤ b then a else b)) :: st) M Q) : zX k d pc lo (.int (zii b) :: .int (zii a) :: st) M Q := by
  have hd1 := Nat.le_of_ble_eq_true hd1
  have hst := Nat.le_of_ble_eq_true hst
  intro ad dC dI cA p l e s m args below meth c H locs ls hC hP hS hL
  have kk := h ad dC dI cA p l e s m args below meth c H locs ls hC hP hS hL
  obtain ⟨hd, rfl⟩ := hi
  obtain ⟨hx, hb, hr, hml, hown, hts, hlk, hK, hinj, hnw⟩ := hC
  obtain ⟨⟨hcode, hini, -, -⟩, hstat⟩ := hm
  have hst' : ((st.map (zrv ad)).map fun v => v.category).sum ≤ 8 := by
    rw [List.map_map]
    have : ((fun v : Value => v.category) ∘ zrv ad) = fun v => v.category := funext fun v => zrv_cat ad v
    rw [this]; exact hst
  · refine va_mmin hx hb (hml.trans hL.1.symm) hown (hts _ hl) (hts _ hstat) (hts _ hini) (hts _ hcode) hd1 (by show _ ≤ 36 * d; omega) (Nat.zero_le _) (Nat.zero_le _) hd ?_
    have e9 : (if zii b < zii a then zii b else zii a) = zii (if a ≤ b then a else b) := by
      simp only [zii_lt hb9 ha]
      by_cases q : a ≤ b
      · rw [if_neg (by omega), if_pos q]
      · rw [if_pos (by omega), if_neg q]
    first | rw [e9] | skip
    exact kk
theorem lm_X6_13 : Cond.methodLink RX6 13 yJ9_max_7cf53 ∈ zt := zt_in 164 (by decide +kernel)
theorem lm_X0_96 : Cond.methodLink RX0 96 yJ9_min_7cf53 ∈ zt := zt_in 400 (by decide +kernel)
theorem lm_X0_101 : Cond.methodLink RX0 101 yJ9_max_7cf53 ∈ zt := zt_in 413 (by decide +kernel)
theorem lm_X1_46 : Cond.methodLink RX1 46 yJ9_min_7cf53 ∈ zt := zt_in 460 (by decide +kernel)
theorem lm_X2_28 : Cond.methodLink RX2 28 yJ9_max_7cf53 ∈ zt := zt_in 593 (by decide +kernel)
theorem lm_X7_84 : Cond.methodLink RX7 84 yJ9_max_7cf53 ∈ zt := zt_in 861 (by decide +kernel)
set_option maxRecDepth 100000 in
theorem c_X0_has {i : Nat} (hi : i < 3) {M : zMem} {A : zAft} (e : M i = A) {b : Int} (hA : zH b A) {g : Int} (hg : zR g) : zCt kX0_has 0 [.ref (7 * i), .int (zii g)] M (zRet (.int (zii (if 0 ≤ g ∧ g < A 6 0 then 1 else 0))) M) := by
  subst e
  have h6 := hA.1
  have hg1 := hg.1
  have hg2 := hg.2
  refine zMet (by decide) (Nat.le_of_ble_eq_true rfl) ?_
  show zX kX0_has 0 0 [some (.ref (7 * i)), some (.int (zii g))] [] _ _
  refine Y_iload_1 i_X0_has_0 ?_
  refine X_if_lt i_X0_has_1 (tgt := 16) rfl ⟨by omega, by omega⟩ (fun h1 => ?_) (fun h1 => ?_)
  · refine X_iconst i_X0_has_16 ?_
    refine X_zret i_X0_has_17 rfl (by omega) ?_
    exact zri (by split <;> omega)
  · refine Y_iload_1 i_X0_has_4 ?_
    refine Y_aload_0 i_X0_has_5 ?_
    refine Y_getI i_X0_has_6 f_X0_30 (zaf_6 hi) rfl ?_
    refine X_icmp_ge i_X0_has_9 (tgt := 16) rfl ⟨by omega, by omega⟩ ⟨by omega, by omega⟩ (fun h9 => ?_) (fun h9 => ?_)
    · refine X_iconst i_X0_has_16 ?_
      refine X_zret i_X0_has_17 rfl (by omega) ?_
      exact zri (by split <;> omega)
    · refine X_iconst i_X0_has_12 ?_
      refine X_goto i_X0_has_13 (tgt := 17) rfl ?_
      refine X_zret i_X0_has_17 rfl (by omega) ?_
      exact zri (by split <;> omega)
set_option maxRecDepth 100000 in
theorem c_X0_howMany {i : Nat} (hi : i < 3) {M : zMem} {A : zAft} (e : M i = A) {b : Int} (hA : zOk b A) {s : Int} (hs : zR s) : zCt kX0_howMany 0 [.ref (7 * i), .int (zii s)] M (zRet (.int (zii (sMany A s))) M) := by
  subst e
  have h6 := hA.1.1
  have hG := sG_le hA.1
  have hs1 := hs.1
  have hs2 := hs.2
  refine zMet (by decide) (Nat.le_of_ble_eq_true rfl) ?_
  show zX kX0_howMany 0 0 [some (.ref (7 * i)), some (.int (zii s)), none, none] [] _ _
  have loop : ∀ (n : Nat) (g : Nat), g + n = sG (M i) → zX kX0_howMany 0 4 [some (.ref (7 * i)), some (.int (zii s)), some (.int (zii (sCnt (M i) s g))), some (.int (zii g))] [] M (zRet (.int (zii (sMany (M i) s))) M) := by
    intro n
    induction n with
    | zero =>
      intro g hg
      have hc := sCnt_in (M i) s g
      refine Y_iload_3 i_X0_howMany_4 ?_
      refine Y_aload_0 i_X0_howMany_5 ?_
      refine Y_getI i_X0_howMany_6 f_X0_30 (zaf_6 hi) rfl ?_
      refine X_icmp_ge i_X0_howMany_9 (tgt := 31) rfl ⟨by omega, by omega⟩ ⟨by omega, by omega⟩ (fun h9 => ?_) (fun h9 => by exfalso; omega)
      refine Y_iload_2 i_X0_howMany_31 ?_
      refine X_iret i_X0_howMany_32 rfl ?_
      exact ⟨by unfold sMany; rw [show g = sG (M i) by omega], rfl⟩
    | succ n ih =>
      intro g hg
      have hc := sCnt_in (M i) s g
      have hgg := hA.2 g (by omega) (by omega)
      unfold zG at hgg
      refine Y_iload_3 i_X0_howMany_4 ?_
      refine Y_aload_0 i_X0_howMany_5 ?_
      refine Y_getI i_X0_howMany_6 f_X0_30 (zaf_6 hi) rfl ?_
      refine X_icmp_ge i_X0_howMany_9 (tgt := 31) rfl ⟨by omega, by omega⟩ ⟨by omega, by omega⟩ (fun h9 => by exfalso; omega) (fun h9 => ?_)
      refine Y_aload_0 i_X0_howMany_12 ?_
      refine X_getR i_X0_howMany_13 f_X0_21 (zaf_3 hi) ?_
      refine Y_iload_3 i_X0_howMany_16 ?_
      refine Y_iald i_X0_howMany_17 (zaa_3 hi) ⟨by omega, by omega⟩ rfl rfl ?_
      refine Y_iload_1 i_X0_howMany_18 ?_
      refine Y_icmp_ne i_X0_howMany_19 (tgt := 25) rfl ⟨by omega, by omega⟩ ⟨by omega, by omega⟩ (fun h19 => ?_) (fun h19 => ?_)
      · refine Y_iinc_3 i_X0_howMany_25 rfl rfl ?_
        refine X_goto i_X0_howMany_28 (tgt := 4) rfl ?_
        exact X_eq (ih (g + 1) (by omega)) (by simp [sCnt, h19]) rfl rfl
      · refine Y_iinc_2 i_X0_howMany_22 rfl rfl ?_
        refine Y_iinc_3 i_X0_howMany_25 rfl rfl ?_
        refine X_goto i_X0_howMany_28 (tgt := 4) rfl ?_
        exact X_eq (ih (g + 1) (by omega)) (by simp [sCnt, h19]) rfl rfl
  refine X_iconst i_X0_howMany_0 ?_
  refine Y_istore_2 i_X0_howMany_1 rfl rfl ?_
  refine X_iconst i_X0_howMany_2 ?_
  refine Y_istore_3 i_X0_howMany_3 rfl rfl ?_
  exact loop (sG (M i)) 0 (by omega)
