theorem zt_inT {w : Cond} {T : List Cond} (hT : ∀ v ∈ T, v ∈ lw_tbl) (i : Nat) (h : (T[i]?).map (fun v => decide (v = w) && goodWord v) = some true) : w ∈ zt := by
  cases hw : T[i]? with
  | none => rw [hw] at h; cases h
  | some v =>
    rw [hw] at h
    simp only [Option.map_some, Option.some.injEq, Bool.and_eq_true, decide_eq_true_eq] at h
    obtain ⟨rfl, g⟩ := h
    exact List.mem_filter.mpr ⟨hT _ (List.mem_of_getElem? hw), g⟩
theorem zn_inT {w : Cond} {T : List Cond} (hT : ∀ v ∈ T, v ∈ lw_tbl) (i : Nat) (h : (T[i]?).map (fun v => decide (v = w) && zNest v) = some true) : w ∈ zn := by
  cases hw : T[i]? with
  | none => rw [hw] at h; cases h
  | some v =>
    rw [hw] at h
    simp only [Option.map_some, Option.some.injEq, Bool.and_eq_true, decide_eq_true_eq] at h
    obtain ⟨rfl, g⟩ := h
    exact List.mem_filter.mpr ⟨hT _ (List.mem_of_getElem? hw), g⟩
theorem zh0 {v : Cond} (h : v ∈ tables_1) : v ∈ lw_tbl := List.mem_append_right _ h
theorem zh1 : ∀ v ∈ tables_1_1, v ∈ lw_tbl := fun v h => zh0 (List.mem_append_left _ h)
theorem zh2 : ∀ v ∈ tables_1_2, v ∈ lw_tbl := fun v h => zh0 (List.mem_append_right _ (List.mem_append_left _ h))
theorem zh3 : ∀ v ∈ tables_1_3, v ∈ lw_tbl := fun v h => zh0 (List.mem_append_right _ (List.mem_append_right _ (List.mem_append_left _ h)))
theorem zh4 : ∀ v ∈ tables_1_4, v ∈ lw_tbl := fun v h => zh0 (List.mem_append_right _ (List.mem_append_right _ (List.mem_append_right _ (List.mem_append_left _ h))))
theorem zh5 : ∀ v ∈ tables_1_5, v ∈ lw_tbl := fun v h => zh0 (List.mem_append_right _ (List.mem_append_right _ (List.mem_append_right _ (List.mem_append_right _ (List.mem_append_left _ h)))))
theorem zh6 : ∀ v ∈ tables_1_6, v ∈ lw_tbl := fun v h => zh0 (List.mem_append_right _ (List.mem_append_right _ (List.mem_append_right _ (List.mem_append_right _ (List.mem_append_right _ h)))))
theorem l_L_9 : zML RL 9 yX9_init := Or.inl (zt_inT zh1 17 (by decide +kernel))
theorem l_X9_9 : zML RX9 9 yX0_init := Or.inr ⟨_, zn_inT (w := .methodLinkNest RX9 9 yX0_init "PouredForLeaving") zh1 25 (by decide +kernel)⟩
theorem f_X0_9 : zFL RX0 9 0 0 := ⟨RX0, TX0, 11, zK0, by decide, Or.inl (zt_inT zh1 29 (by decide +kernel))⟩
theorem f_X2_100 : zFL RX2 100 0 0 := ⟨RX0, TX0, 11, zK0, by decide, Or.inr ⟨_, zn_inT (w := .fieldLinkNest RX2 100 (TX0 0).1 (TX0 0).2.1 (TX0 0).2.2.1 "PouredForLeaving") zh1 30 (by decide +kernel)⟩⟩
theorem f_X0_15 : zFL RX0 15 0 1 := ⟨RX0, TX0, 11, zK0, by decide, Or.inl (zt_inT zh1 31 (by decide +kernel))⟩
theorem f_X0_18 : zFL RX0 18 0 2 := ⟨RX0, TX0, 11, zK0, by decide, Or.inl (zt_inT zh1 32 (by decide +kernel))⟩
theorem f_X7_35 : zFL RX7 35 0 2 := ⟨RX0, TX0, 11, zK0, by decide, Or.inr ⟨_, zn_inT (w := .fieldLinkNest RX7 35 (TX0 2).1 (TX0 2).2.1 (TX0 2).2.2.1 "PouredForLeaving") zh1 33 (by decide +kernel)⟩⟩
theorem f_X4_77 : zFL RX4 77 0 2 := ⟨RX0, TX0, 11, zK0, by decide, Or.inr ⟨_, zn_inT (w := .fieldLinkNest RX4 77 (TX0 2).1 (TX0 2).2.1 (TX0 2).2.2.1 "PouredForLeaving") zh1 34 (by decide +kernel)⟩⟩
theorem f_X0_21 : zFL RX0 21 0 3 := ⟨RX0, TX0, 11, zK0, by decide, Or.inl (zt_inT zh1 35 (by decide +kernel))⟩
theorem f_X1_40 : zFL RX1 40 0 3 := ⟨RX0, TX0, 11, zK0, by decide, Or.inr ⟨_, zn_inT (w := .fieldLinkNest RX1 40 (TX0 3).1 (TX0 3).2.1 (TX0 3).2.2.1 "PouredForLeaving") zh1 36 (by decide +kernel)⟩⟩
theorem f_X4_42 : zFL RX4 42 0 3 := ⟨RX0, TX0, 11, zK0, by decide, Or.inr ⟨_, zn_inT (w := .fieldLinkNest RX4 42 (TX0 3).1 (TX0 3).2.1 (TX0 3).2.2.1 "PouredForLeaving") zh1 37 (by decide +kernel)⟩⟩
theorem f_X7_31 : zFL RX7 31 0 3 := ⟨RX0, TX0, 11, zK0, by decide, Or.inr ⟨_, zn_inT (w := .fieldLinkNest RX7 31 (TX0 3).1 (TX0 3).2.1 (TX0 3).2.2.1 "PouredForLeaving") zh1 38 (by decide +kernel)⟩⟩
theorem f_X2_67 : zFL RX2 67 0 3 := ⟨RX0, TX0, 11, zK0, by decide, Or.inr ⟨_, zn_inT (w := .fieldLinkNest RX2 67 (TX0 3).1 (TX0 3).2.1 (TX0 3).2.2.1 "PouredForLeaving") zh1 39 (by decide +kernel)⟩⟩
theorem f_X9_134 : zFL RX9 134 0 3 := ⟨RX0, TX0, 11, zK0, by decide, Or.inr ⟨_, zn_inT (w := .fieldLinkNest RX9 134 (TX0 3).1 (TX0 3).2.1 (TX0 3).2.2.1 "PouredForLeaving") zh1 40 (by decide +kernel)⟩⟩
theorem f_X8_62 : zFL RX8 62 0 3 := ⟨RX0, TX0, 11, zK0, by decide, Or.inr ⟨_, zn_inT (w := .fieldLinkNest RX8 62 (TX0 3).1 (TX0 3).2.1 (TX0 3).2.2.1 "PouredForLeaving") zh1 41 (by decide +kernel)⟩⟩
theorem f_X0_24 : zFL RX0 24 0 4 := ⟨RX0, TX0, 11, zK0, by decide, Or.inl (zt_inT zh1 42 (by decide +kernel))⟩
theorem f_X1_41 : zFL RX1 41 0 4 := ⟨RX0, TX0, 11, zK0, by decide, Or.inr ⟨_, zn_inT (w := .fieldLinkNest RX1 41 (TX0 4).1 (TX0 4).2.1 (TX0 4).2.2.1 "PouredForLeaving") zh1 43 (by decide +kernel)⟩⟩
theorem f_X0_27 : zFL RX0 27 0 5 := ⟨RX0, TX0, 11, zK0, by decide, Or.inl (zt_inT zh1 44 (by decide +kernel))⟩
theorem f_X7_38 : zFL RX7 38 0 5 := ⟨RX0, TX0, 11, zK0, by decide, Or.inr ⟨_, zn_inT (w := .fieldLinkNest RX7 38 (TX0 5).1 (TX0 5).2.1 (TX0 5).2.2.1 "PouredForLeaving") zh1 45 (by decide +kernel)⟩⟩
theorem f_X4_65 : zFL RX4 65 0 5 := ⟨RX0, TX0, 11, zK0, by decide, Or.inr ⟨_, zn_inT (w := .fieldLinkNest RX4 65 (TX0 5).1 (TX0 5).2.1 (TX0 5).2.2.1 "PouredForLeaving") zh1 46 (by decide +kernel)⟩⟩
theorem f_X0_30 : zFL RX0 30 0 6 := ⟨RX0, TX0, 11, zK0, by decide, Or.inl (zt_inT zh1 47 (by decide +kernel))⟩
theorem f_X7_59 : zFL RX7 59 0 6 := ⟨RX0, TX0, 11, zK0, by decide, Or.inr ⟨_, zn_inT (w := .fieldLinkNest RX7 59 (TX0 6).1 (TX0 6).2.1 (TX0 6).2.2.1 "PouredForLeaving") zh1 48 (by decide +kernel)⟩⟩
theorem f_X2_76 : zFL RX2 76 0 6 := ⟨RX0, TX0, 11, zK0, by decide, Or.inr ⟨_, zn_inT (w := .fieldLinkNest RX2 76 (TX0 6).1 (TX0 6).2.1 (TX0 6).2.2.1 "PouredForLeaving") zh1 49 (by decide +kernel)⟩⟩
theorem f_X4_80 : zFL RX4 80 0 6 := ⟨RX0, TX0, 11, zK0, by decide, Or.inr ⟨_, zn_inT (w := .fieldLinkNest RX4 80 (TX0 6).1 (TX0 6).2.1 (TX0 6).2.2.1 "PouredForLeaving") zh1 50 (by decide +kernel)⟩⟩
theorem f_X9_249 : zFL RX9 249 0 6 := ⟨RX0, TX0, 11, zK0, by decide, Or.inr ⟨_, zn_inT (w := .fieldLinkNest RX9 249 (TX0 6).1 (TX0 6).2.1 (TX0 6).2.2.1 "PouredForLeaving") zh1 51 (by decide +kernel)⟩⟩
theorem f_X0_34 : zFL RX0 34 0 7 := ⟨RX0, TX0, 11, zK0, by decide, Or.inl (zt_inT zh1 52 (by decide +kernel))⟩
theorem f_X2_38 : zFL RX2 38 0 7 := ⟨RX0, TX0, 11, zK0, by decide, Or.inr ⟨_, zn_inT (w := .fieldLinkNest RX2 38 (TX0 7).1 (TX0 7).2.1 (TX0 7).2.2.1 "PouredForLeaving") zh1 53 (by decide +kernel)⟩⟩
theorem f_X1_42 : zFL RX1 42 0 7 := ⟨RX0, TX0, 11, zK0, by decide, Or.inr ⟨_, zn_inT (w := .fieldLinkNest RX1 42 (TX0 7).1 (TX0 7).2.1 (TX0 7).2.2.1 "PouredForLeaving") zh1 54 (by decide +kernel)⟩⟩
theorem f_X9_140 : zFL RX9 140 0 7 := ⟨RX0, TX0, 11, zK0, by decide, Or.inr ⟨_, zn_inT (w := .fieldLinkNest RX9 140 (TX0 7).1 (TX0 7).2.1 (TX0 7).2.2.1 "PouredForLeaving") zh1 55 (by decide +kernel)⟩⟩
theorem f_X8_69 : zFL RX8 69 0 7 := ⟨RX0, TX0, 11, zK0, by decide, Or.inr ⟨_, zn_inT (w := .fieldLinkNest RX8 69 (TX0 7).1 (TX0 7).2.1 (TX0 7).2.2.1 "PouredForLeaving") zh1 56 (by decide +kernel)⟩⟩
theorem f_X7_78 : zFL RX7 78 0 7 := ⟨RX0, TX0, 11, zK0, by decide, Or.inr ⟨_, zn_inT (w := .fieldLinkNest RX7 78 (TX0 7).1 (TX0 7).2.1 (TX0 7).2.2.1 "PouredForLeaving") zh1 57 (by decide +kernel)⟩⟩
theorem f_X0_37 : zFL RX0 37 0 8 := ⟨RX0, TX0, 11, zK0, by decide, Or.inl (zt_inT zh1 58 (by decide +kernel))⟩
theorem f_X1_44 : zFL RX1 44 0 8 := ⟨RX0, TX0, 11, zK0, by decide, Or.inr ⟨_, zn_inT (w := .fieldLinkNest RX1 44 (TX0 8).1 (TX0 8).2.1 (TX0 8).2.2.1 "PouredForLeaving") zh1 59 (by decide +kernel)⟩⟩
theorem f_X2_45 : zFL RX2 45 0 8 := ⟨RX0, TX0, 11, zK0, by decide, Or.inr ⟨_, zn_inT (w := .fieldLinkNest RX2 45 (TX0 8).1 (TX0 8).2.1 (TX0 8).2.2.1 "PouredForLeaving") zh1 60 (by decide +kernel)⟩⟩
theorem f_X9_144 : zFL RX9 144 0 8 := ⟨RX0, TX0, 11, zK0, by decide, Or.inr ⟨_, zn_inT (w := .fieldLinkNest RX9 144 (TX0 8).1 (TX0 8).2.1 (TX0 8).2.2.1 "PouredForLeaving") zh1 61 (by decide +kernel)⟩⟩
theorem f_X8_76 : zFL RX8 76 0 8 := ⟨RX0, TX0, 11, zK0, by decide, Or.inr ⟨_, zn_inT (w := .fieldLinkNest RX8 76 (TX0 8).1 (TX0 8).2.1 (TX0 8).2.2.1 "PouredForLeaving") zh1 62 (by decide +kernel)⟩⟩
theorem f_X0_40 : zFL RX0 40 0 9 := ⟨RX0, TX0, 11, zK0, by decide, Or.inl (zt_inT zh1 63 (by decide +kernel))⟩
theorem f_X9_296 : zFL RX9 296 0 9 := ⟨RX0, TX0, 11, zK0, by decide, Or.inr ⟨_, zn_inT (w := .fieldLinkNest RX9 296 (TX0 9).1 (TX0 9).2.1 (TX0 9).2.2.1 "PouredForLeaving") zh1 64 (by decide +kernel)⟩⟩
theorem f_X0_43 : zFL RX0 43 0 10 := ⟨RX0, TX0, 11, zK0, by decide, Or.inl (zt_inT zh1 65 (by decide +kernel))⟩
theorem f_X7_45 : zFL RX7 45 0 10 := ⟨RX0, TX0, 11, zK0, by decide, Or.inr ⟨_, zn_inT (w := .fieldLinkNest RX7 45 (TX0 10).1 (TX0 10).2.1 (TX0 10).2.2.1 "PouredForLeaving") zh1 66 (by decide +kernel)⟩⟩
theorem f_X2_52 : zFL RX2 52 0 10 := ⟨RX0, TX0, 11, zK0, by decide, Or.inr ⟨_, zn_inT (w := .fieldLinkNest RX2 52 (TX0 10).1 (TX0 10).2.1 (TX0 10).2.2.1 "PouredForLeaving") zh1 67 (by decide +kernel)⟩⟩
theorem f_X4_93 : zFL RX4 93 0 10 := ⟨RX0, TX0, 11, zK0, by decide, Or.inr ⟨_, zn_inT (w := .fieldLinkNest RX4 93 (TX0 10).1 (TX0 10).2.1 (TX0 10).2.2.1 "PouredForLeaving") zh1 68 (by decide +kernel)⟩⟩
theorem f_X9_299 : zFL RX9 299 0 10 := ⟨RX0, TX0, 11, zK0, by decide, Or.inr ⟨_, zn_inT (w := .fieldLinkNest RX9 299 (TX0 10).1 (TX0 10).2.1 (TX0 10).2.2.1 "PouredForLeaving") zh1 69 (by decide +kernel)⟩⟩
theorem l_X9_24 : zML RX9 24 yX6_init := Or.inl (zt_inT zh1 96 (by decide +kernel))
theorem l_X6_13 : zML RX6 13 yJ9_max_7cf53 := Or.inl (zt_inT zh1 100 (by decide +kernel))
theorem f_X6_19 : zFL RX6 19 4 0 := ⟨RX6, TX6, 2, zK4, by decide, Or.inl (zt_inT zh1 103 (by decide +kernel))⟩
theorem f_X6_7 : zFL RX6 7 4 1 := ⟨RX6, TX6, 2, zK4, by decide, Or.inl (zt_inT zh1 104 (by decide +kernel))⟩
theorem f_X8_21 : zFL RX8 21 4 1 := ⟨RX6, TX6, 2, zK4, by decide, Or.inr ⟨_, zn_inT (w := .fieldLinkNest RX8 21 (TX6 1).1 (TX6 1).2.1 (TX6 1).2.2.1 "PouredForLeaving") zh1 105 (by decide +kernel)⟩⟩
theorem f_X4_36 : zFL RX4 36 4 1 := ⟨RX6, TX6, 2, zK4, by decide, Or.inr ⟨_, zn_inT (w := .fieldLinkNest RX4 36 (TX6 1).1 (TX6 1).2.1 (TX6 1).2.2.1 "PouredForLeaving") zh1 106 (by decide +kernel)⟩⟩
theorem f_X9_292 : zFL RX9 292 4 1 := ⟨RX6, TX6, 2, zK4, by decide, Or.inr ⟨_, zn_inT (w := .fieldLinkNest RX9 292 (TX6 1).1 (TX6 1).2.1 (TX6 1).2.2.1 "PouredForLeaving") zh1 107 (by decide +kernel)⟩⟩
theorem l_X9_36 : zML RX9 36 yX1_init := Or.inr ⟨_, zn_inT (w := .methodLinkNest RX9 36 yX1_init "PouredForLeaving") zh1 115 (by decide +kernel)⟩
theorem f_X1_9 : zFL RX1 9 1 0 := ⟨RX1, TX1, 7, zK1, by decide, Or.inl (zt_inT zh1 119 (by decide +kernel))⟩
theorem f_X1_15 : zFL RX1 15 1 1 := ⟨RX1, TX1, 7, zK1, by decide, Or.inl (zt_inT zh1 120 (by decide +kernel))⟩
theorem f_X1_18 : zFL RX1 18 1 2 := ⟨RX1, TX1, 7, zK1, by decide, Or.inl (zt_inT zh1 121 (by decide +kernel))⟩
theorem f_X1_21 : zFL RX1 21 1 3 := ⟨RX1, TX1, 7, zK1, by decide, Or.inl (zt_inT zh1 122 (by decide +kernel))⟩
theorem f_X1_24 : zFL RX1 24 1 4 := ⟨RX1, TX1, 7, zK1, by decide, Or.inl (zt_inT zh1 123 (by decide +kernel))⟩
theorem f_X1_27 : zFL RX1 27 1 5 := ⟨RX1, TX1, 7, zK1, by decide, Or.inl (zt_inT zh1 124 (by decide +kernel))⟩
theorem f_X1_31 : zFL RX1 31 1 6 := ⟨RX1, TX1, 7, zK1, by decide, Or.inl (zt_inT zh1 125 (by decide +kernel))⟩
theorem f_X9_153 : zFL RX9 153 1 6 := ⟨RX1, TX1, 7, zK1, by decide, Or.inr ⟨_, zn_inT (w := .fieldLinkNest RX9 153 (TX1 6).1 (TX1 6).2.1 (TX1 6).2.2.1 "PouredForLeaving") zh1 126 (by decide +kernel)⟩⟩
theorem l_X9_43 : zML RX9 43 yX7_init := Or.inl (zt_inT zh1 144 (by decide +kernel))
theorem f_X7_9 : zFL RX7 9 5 0 := ⟨RX7, TX7, 2, zK5, by decide, Or.inl (zt_inT zh1 148 (by decide +kernel))⟩
theorem f_X7_15 : zFL RX7 15 5 1 := ⟨RX7, TX7, 2, zK5, by decide, Or.inl (zt_inT zh1 149 (by decide +kernel))⟩
theorem l_X9_52 : zML RX9 52 yX2_init := Or.inl (zt_inT zh1 157 (by decide +kernel))
theorem f_X2_15 : zFL RX2 15 2 0 := ⟨RX2, TX2, 3, zK2, by decide, Or.inl (zt_inT zh1 161 (by decide +kernel))⟩
theorem f_X2_19 : zFL RX2 19 2 1 := ⟨RX2, TX2, 3, zK2, by decide, Or.inl (zt_inT zh1 162 (by decide +kernel))⟩
theorem f_X2_9 : zFL RX2 9 2 2 := ⟨RX2, TX2, 3, zK2, by decide, Or.inl (zt_inT zh1 163 (by decide +kernel))⟩
theorem l_X9_59 : zML RX9 59 yX4_init := Or.inl (zt_inT zh1 173 (by decide +kernel))
theorem f_X4_15 : zFL RX4 15 3 0 := ⟨RX4, TX4, 3, zK3, by decide, Or.inl (zt_inT zh1 177 (by decide +kernel))⟩
theorem f_X4_19 : zFL RX4 19 3 1 := ⟨RX4, TX4, 3, zK3, by decide, Or.inl (zt_inT zh1 178 (by decide +kernel))⟩
theorem f_X4_9 : zFL RX4 9 3 2 := ⟨RX4, TX4, 3, zK3, by decide, Or.inl (zt_inT zh1 179 (by decide +kernel))⟩
theorem f_X9_10 : zFL RX9 10 6 0 := ⟨RX9, TX9, 11, zK6, by decide, Or.inl (zt_inT zh1 187 (by decide +kernel))⟩
theorem f_X9_16 : zFL RX9 16 6 1 := ⟨RX9, TX9, 11, zK6, by decide, Or.inl (zt_inT zh1 188 (by decide +kernel))⟩
theorem f_X9_19 : zFL RX9 19 6 2 := ⟨RX9, TX9, 11, zK6, by decide, Or.inl (zt_inT zh1 189 (by decide +kernel))⟩
theorem f_X9_27 : zFL RX9 27 6 3 := ⟨RX9, TX9, 11, zK6, by decide, Or.inl (zt_inT zh1 190 (by decide +kernel))⟩
theorem f_X9_31 : zFL RX9 31 6 4 := ⟨RX9, TX9, 11, zK6, by decide, Or.inl (zt_inT zh1 191 (by decide +kernel))⟩
theorem f_X9_37 : zFL RX9 37 6 5 := ⟨RX9, TX9, 11, zK6, by decide, Or.inl (zt_inT zh1 192 (by decide +kernel))⟩
theorem f_X9_46 : zFL RX9 46 6 6 := ⟨RX9, TX9, 11, zK6, by decide, Or.inl (zt_inT zh1 193 (by decide +kernel))⟩
theorem f_X9_53 : zFL RX9 53 6 7 := ⟨RX9, TX9, 11, zK6, by decide, Or.inl (zt_inT zh1 194 (by decide +kernel))⟩
theorem f_X9_60 : zFL RX9 60 6 8 := ⟨RX9, TX9, 11, zK6, by decide, Or.inl (zt_inT zh1 195 (by decide +kernel))⟩
theorem f_X9_64 : zFL RX9 64 6 9 := ⟨RX9, TX9, 11, zK6, by decide, Or.inl (zt_inT zh1 196 (by decide +kernel))⟩
theorem f_X9_68 : zFL RX9 68 6 10 := ⟨RX9, TX9, 11, zK6, by decide, Or.inl (zt_inT zh1 197 (by decide +kernel))⟩
theorem l_L_13 : zML RL 13 yX9_feed := Or.inl (zt_inT zh1 221 (by decide +kernel))
theorem l_X9_72 : zML RX9 72 yX9_refuse := Or.inl (zt_inT zh1 225 (by decide +kernel))
theorem l_X9_76 : zML RX9 76 yX6_isFull := Or.inl (zt_inT zh1 229 (by decide +kernel))
theorem l_X9_80 : zML RX9 80 yX6_add := Or.inl (zt_inT zh1 233 (by decide +kernel))
theorem l_X6_23 : zML RX6 23 yX6_isFull := Or.inl (zt_inT zh1 237 (by decide +kernel))
theorem l_L_18 : zML RL 18 yX9_house := Or.inl (zt_inT zh1 238 (by decide +kernel))
theorem l_X9_83 : zML RX9 83 yX8_follow := Or.inl (zt_inT zh2 2 (by decide +kernel))
theorem l_X8_9 : zML RX8 9 yX8_placeOfWrongLetter := Or.inl (zt_inT zh2 5 (by decide +kernel))
theorem l_X8_38 : zML RX8 38 yX8_placeOfWrongLetterFrom := Or.inl (zt_inT zh2 8 (by decide +kernel))
theorem l_X8_31 : zML RX8 31 yX6_at := Or.inl (zt_inT zh2 11 (by decide +kernel))
theorem l_X8_35 : zML RX8 35 yX8_lengthOf := Or.inl (zt_inT zh2 15 (by decide +kernel))
theorem l_X8_42 : zML RX8 42 yX8_isDigit := Or.inl (zt_inT zh2 18 (by decide +kernel))
theorem l_X8_15 : zML RX8 15 yX0_copyFrom := Or.inl (zt_inT zh2 21 (by decide +kernel))
theorem l_X0_46 : Cond.methodLink RX0 46 arraycopyName ∈ zt := zt_inT zh2 25 (by decide +kernel)
theorem l_X8_27 : zML RX8 27 yX8_comesTrue := Or.inl (zt_inT zh2 28 (by decide +kernel))
theorem l_X8_46 : zML RX8 46 yX8_digitAt := Or.inl (zt_inT zh2 31 (by decide +kernel))
theorem l_X8_49 : zML RX8 49 yX8_guestComes := Or.inl (zt_inT zh2 34 (by decide +kernel))
theorem l_X8_79 : zML RX8 79 yX8_twoDigitsAt := Or.inl (zt_inT zh2 37 (by decide +kernel))
theorem l_X8_88 : zML RX8 88 yX0_whyNotCome := Or.inl (zt_inT zh2 40 (by decide +kernel))
theorem l_X0_56 : zML RX0 56 yX9_isOther := Or.inr ⟨_, zn_inT (w := .methodLinkNest RX0 56 yX9_isOther "PouredForLeaving") zh2 44 (by decide +kernel)⟩
theorem l_X8_92 : zML RX8 92 yX0_come := Or.inl (zt_inT zh2 47 (by decide +kernel))
theorem l_X8_52 : zML RX8 52 yX0_whyNotRise := Or.inl (zt_inT zh2 51 (by decide +kernel))
theorem l_X0_52 : zML RX0 52 yX0_has := Or.inl (zt_inT zh2 55 (by decide +kernel))
theorem l_X8_55 : zML RX8 55 yX0_rise := Or.inl (zt_inT zh2 59 (by decide +kernel))
theorem l_X8_59 : zML RX8 59 yX0_whyNotSlip := Or.inl (zt_inT zh2 63 (by decide +kernel))
theorem l_X8_66 : zML RX8 66 yX0_whyNotCups := Or.inl (zt_inT zh2 67 (by decide +kernel))
theorem l_X0_60 : zML RX0 60 yX0_howMany := Or.inl (zt_inT zh2 71 (by decide +kernel))
theorem l_X8_72 : zML RX8 72 yX9_isOther := Or.inr ⟨_, zn_inT (w := .methodLinkNest RX8 72 yX9_isOther "PouredForLeaving") zh2 75 (by decide +kernel)⟩
theorem l_X8_82 : zML RX8 82 yX0_whyNotPass := Or.inl (zt_inT zh2 76 (by decide +kernel))
theorem l_X8_85 : zML RX8 85 yX0_pass := Or.inl (zt_inT zh2 80 (by decide +kernel))
theorem l_X0_83 : zML RX0 83 yX0_passOne := Or.inl (zt_inT zh2 84 (by decide +kernel))
theorem l_X0_86 : zML RX0 86 yX0_passUnserved := Or.inl (zt_inT zh2 88 (by decide +kernel))
theorem l_X0_93 : zML RX0 93 yX0_passFor := Or.inl (zt_inT zh2 92 (by decide +kernel))
theorem l_X0_96 : zML RX0 96 yJ9_min_7cf53 := Or.inl (zt_inT zh2 96 (by decide +kernel))
theorem l_X0_68 : zML RX0 68 yX5_limit := Or.inl (zt_inT zh2 99 (by decide +kernel))
theorem l_X0_64 : zML RX0 64 yX0_rise := Or.inl (zt_inT zh2 102 (by decide +kernel))
theorem l_X0_74 : zML RX0 74 yX5_patience := Or.inl (zt_inT zh2 103 (by decide +kernel))
theorem l_X0_77 : zML RX0 77 yX5_sip := Or.inl (zt_inT zh2 106 (by decide +kernel))
theorem l_X0_101 : zML RX0 101 yJ9_max_7cf53 := Or.inl (zt_inT zh2 109 (by decide +kernel))
theorem l_X0_80 : zML RX0 80 yX5_enough := Or.inl (zt_inT zh2 110 (by decide +kernel))
theorem l_X0_89 : zML RX0 89 yX0_pourOne := Or.inl (zt_inT zh2 113 (by decide +kernel))
theorem l_X0_104 : zML RX0 104 yX0_isAhead := Or.inl (zt_inT zh2 117 (by decide +kernel))
theorem l_X9_89 : zML RX9 89 yX6_empty := Or.inl (zt_inT zh2 121 (by decide +kernel))
theorem l_X9_92 : zML RX9 92 yX0_copyFrom := Or.inl (zt_inT zh2 125 (by decide +kernel))
theorem l_X9_96 : zML RX9 96 yX1_forget := Or.inl (zt_inT zh2 126 (by decide +kernel))
theorem l_L_23 : zML RL 23 yX9_guestOf := Or.inl (zt_inT zh2 130 (by decide +kernel))
theorem l_X9_99 : zML RX9 99 yX0_has := Or.inl (zt_inT zh2 134 (by decide +kernel))
theorem l_X9_103 : zML RX9 103 yX9_isOther := Or.inl (zt_inT zh2 135 (by decide +kernel))
theorem l_X9_107 : zML RX9 107 yX0_tellOf := Or.inl (zt_inT zh2 136 (by decide +kernel))
theorem l_L_28 : zML RL 28 yX9_guest := Or.inl (zt_inT zh2 140 (by decide +kernel))
theorem l_X9_111 : zML RX9 111 yX0_whyNotCome := Or.inl (zt_inT zh2 144 (by decide +kernel))
theorem l_X9_115 : zML RX9 115 yX0_come := Or.inl (zt_inT zh2 145 (by decide +kernel))
theorem l_L_33 : zML RL 33 yX9_rises := Or.inl (zt_inT zh2 146 (by decide +kernel))
theorem l_X9_118 : zML RX9 118 yX0_whyNotRise := Or.inl (zt_inT zh2 150 (by decide +kernel))
theorem l_X9_121 : zML RX9 121 yX1_keep := Or.inl (zt_inT zh2 151 (by decide +kernel))
theorem l_X1_34 : zML RX1 34 yX0_has := Or.inl (zt_inT zh2 155 (by decide +kernel))
theorem l_X1_46 : zML RX1 46 yJ9_min_7cf53 := Or.inl (zt_inT zh2 156 (by decide +kernel))
theorem l_X9_125 : zML RX9 125 yX0_rise := Or.inl (zt_inT zh2 157 (by decide +kernel))
theorem l_X9_128 : zML RX9 128 yX0_howMany := Or.inl (zt_inT zh2 158 (by decide +kernel))
theorem l_L_37 : zML RL 37 yX9_slips := Or.inl (zt_inT zh2 159 (by decide +kernel))
theorem l_X9_131 : zML RX9 131 yX0_whyNotSlip := Or.inl (zt_inT zh2 163 (by decide +kernel))
theorem l_L_41 : zML RL 41 yX9_cups := Or.inl (zt_inT zh2 164 (by decide +kernel))
theorem l_X9_137 : zML RX9 137 yX0_whyNotCups := Or.inl (zt_inT zh2 168 (by decide +kernel))
theorem l_L_45 : zML RL 45 yX9_rule := Or.inl (zt_inT zh2 169 (by decide +kernel))
theorem l_L_49 : zML RL 49 yX9_minutes := Or.inl (zt_inT zh2 173 (by decide +kernel))
theorem l_X9_147 : zML RX9 147 yX0_whyNotPass := Or.inl (zt_inT zh2 177 (by decide +kernel))
theorem l_X9_150 : zML RX9 150 yX0_pass := Or.inl (zt_inT zh2 178 (by decide +kernel))
theorem l_L_53 : zML RL 53 yX9_back := Or.inl (zt_inT zh2 179 (by decide +kernel))
theorem l_X9_156 : zML RX9 156 yX1_takeBack := Or.inl (zt_inT zh2 183 (by decide +kernel))
theorem l_L_57 : zML RL 57 yX9_behind := Or.inl (zt_inT zh2 187 (by decide +kernel))
theorem l_X9_160 : zML RX9 160 yX9_whyNotFar_ := Or.inl (zt_inT zh2 191 (by decide +kernel))
theorem l_X9_191 : zML RX9 191 yX9_whyNotFar := Or.inl (zt_inT zh2 194 (by decide +kernel))
theorem l_X9_163 : zML RX9 163 yX7_ofOne := Or.inl (zt_inT zh2 197 (by decide +kernel))
theorem l_X7_28 : zML RX7 28 yX7_lookOn := Or.inl (zt_inT zh2 201 (by decide +kernel))
theorem l_X7_18 : zML RX7 18 yX0_copyFrom := Or.inl (zt_inT zh2 205 (by decide +kernel))
theorem l_X7_24 : zML RX7 24 yX0_pass := Or.inl (zt_inT zh2 206 (by decide +kernel))
theorem l_L_61 : zML RL 61 yX9_all := Or.inl (zt_inT zh2 207 (by decide +kernel))
theorem l_X9_166 : zML RX9 166 yX7_ofAll := Or.inl (zt_inT zh2 211 (by decide +kernel))
theorem l_X7_41 : zML RX7 41 yX0_howMany := Or.inl (zt_inT zh2 215 (by decide +kernel))
theorem l_X7_49 : zML RX7 49 yX0_wholeThirst := Or.inl (zt_inT zh2 216 (by decide +kernel))
theorem l_L_65 : zML RL 65 yX9_leaves := Or.inl (zt_inT zh2 220 (by decide +kernel))
theorem l_X9_169 : zML RX9 169 yX7_whenGone := Or.inl (zt_inT zh2 224 (by decide +kernel))
theorem l_X7_53 : zML RX7 53 yX0_passTillGone := Or.inl (zt_inT zh2 228 (by decide +kernel))
theorem l_X9_172 : zML RX9 172 yX9_noneIfNever := Or.inl (zt_inT zh2 232 (by decide +kernel))
theorem l_L_69 : zML RL 69 yX9_gone := Or.inl (zt_inT zh2 235 (by decide +kernel))
theorem l_X9_175 : zML RX9 175 yX7_firstGone := Or.inl (zt_inT zh2 239 (by decide +kernel))
theorem l_X7_62 : zML RX7 62 yX0_passOne := Or.inl (zt_inT zh3 3 (by decide +kernel))
theorem l_X9_179 : zML RX9 179 yX7_whenAllGone := Or.inl (zt_inT zh3 4 (by decide +kernel))
theorem l_X7_56 : zML RX7 56 yX0_passTillAllGoneBut := Or.inl (zt_inT zh3 8 (by decide +kernel))
theorem l_X0_107 : zML RX0 107 yX0_allGoneBut := Or.inl (zt_inT zh3 12 (by decide +kernel))
theorem l_L_73 : zML RL 73 yX9_tastes := Or.inl (zt_inT zh3 16 (by decide +kernel))
theorem l_X9_182 : zML RX9 182 yX7_whenDrinking := Or.inl (zt_inT zh3 20 (by decide +kernel))
theorem l_L_77 : zML RL 77 yX9_thirsty := Or.inl (zt_inT zh3 24 (by decide +kernel))
theorem l_X9_185 : zML RX9 185 yX7_neverServed := Or.inl (zt_inT zh3 28 (by decide +kernel))
theorem l_X7_65 : zML RX7 65 yX0_setOf := Or.inl (zt_inT zh3 32 (by decide +kernel))
theorem l_X9_188 : zML RX9 188 yX7_staying := Or.inl (zt_inT zh3 36 (by decide +kernel))
theorem l_L_81 : zML RL 81 yX9_cupsWanted := Or.inl (zt_inT zh3 40 (by decide +kernel))
theorem l_X9_193 : zML RX9 193 yX2_fewestCups := Or.inl (zt_inT zh3 44 (by decide +kernel))
theorem l_X2_22 : zML RX2 22 yX0_howMany := Or.inl (zt_inT zh3 48 (by decide +kernel))
theorem l_X2_28 : zML RX2 28 yJ9_max_7cf53 := Or.inl (zt_inT zh3 49 (by decide +kernel))
theorem l_X2_34 : zML RX2 34 yX0_copyFrom := Or.inl (zt_inT zh3 50 (by decide +kernel))
theorem l_X2_42 : zML RX2 42 yX0_passTillAllGoneBut := Or.inl (zt_inT zh3 51 (by decide +kernel))
theorem l_L_85 : zML RL 85 yX9_bestRule := Or.inl (zt_inT zh3 52 (by decide +kernel))
theorem l_X9_196 : zML RX9 196 yX2_soonestRule := Or.inl (zt_inT zh3 56 (by decide +kernel))
theorem l_X9_199 : zML RX9 199 yX2_mostPouredRule := Or.inl (zt_inT zh3 60 (by decide +kernel))
theorem l_X2_48 : zML RX2 48 yX0_pass := Or.inl (zt_inT zh3 64 (by decide +kernel))
theorem l_L_89 : zML RL 89 yX9_rising := Or.inl (zt_inT zh3 65 (by decide +kernel))
theorem l_X9_202 : zML RX9 202 yX2_soonestRising := Or.inl (zt_inT zh3 69 (by decide +kernel))
theorem l_X2_55 : zML RX2 55 yX0_setOf := Or.inl (zt_inT zh3 73 (by decide +kernel))
theorem l_X2_58 : zML RX2 58 yX0_riseAll := Or.inl (zt_inT zh3 74 (by decide +kernel))
theorem l_X2_61 : zML RX2 61 yX9_noneIfNever := Or.inr ⟨_, zn_inT (w := .methodLinkNest RX2 61 yX9_noneIfNever "PouredForLeaving") zh3 78 (by decide +kernel)⟩
theorem l_L_93 : zML RL 93 yX9_bestRise := Or.inl (zt_inT zh3 79 (by decide +kernel))
theorem l_X9_205 : zML RX9 205 yX2_soonestRiseOf := Or.inl (zt_inT zh3 83 (by decide +kernel))
theorem l_X2_64 : zML RX2 64 yX2_whenGoneRisingBehind := Or.inl (zt_inT zh3 87 (by decide +kernel))
theorem l_X2_70 : zML RX2 70 yX0_rise := Or.inl (zt_inT zh3 91 (by decide +kernel))
theorem l_X2_73 : zML RX2 73 yX0_passOne := Or.inl (zt_inT zh3 92 (by decide +kernel))
theorem l_L_97 : zML RL 97 yX9_two := Or.inl (zt_inT zh3 93 (by decide +kernel))
theorem l_X9_208 : zML RX9 208 yX0_areTwo := Or.inl (zt_inT zh3 97 (by decide +kernel))
theorem l_X9_211 : zML RX9 211 yX2_balanceOf := Or.inl (zt_inT zh3 101 (by decide +kernel))
theorem l_X2_86 : zML RX2 86 yX2_setOfPair := Or.inl (zt_inT zh3 105 (by decide +kernel))
theorem l_X2_90 : zML RX2 90 yX2_noteLeaving := Or.inl (zt_inT zh3 108 (by decide +kernel))
theorem l_X2_79 : zML RX2 79 yX2_placeOf := Or.inl (zt_inT zh3 112 (by decide +kernel))
theorem l_X2_82 : zML RX2 82 yX0_allGoneBut := Or.inl (zt_inT zh3 115 (by decide +kernel))
theorem l_X2_93 : zML RX2 93 yX2_isAtRest := Or.inl (zt_inT zh3 116 (by decide +kernel))
theorem l_L_101 : zML RL 101 yX9_rest := Or.inl (zt_inT zh3 120 (by decide +kernel))
theorem l_X9_214 : zML RX9 214 yX2_atRest := Or.inl (zt_inT zh3 124 (by decide +kernel))
theorem l_L_105 : zML RL 105 yX9_garden := Or.inl (zt_inT zh3 128 (by decide +kernel))
theorem l_X9_217 : zML RX9 217 yX9_refuseLoudly := Or.inl (zt_inT zh3 132 (by decide +kernel))
theorem n_X9_302 : Cond.constant RX9 302 (1000000000 : Int32) ∈ zt := zt_inT zh3 136 (by decide +kernel)
theorem l_X9_220 : zML RX9 220 yX2_gainWithout := Or.inl (zt_inT zh3 137 (by decide +kernel))
theorem l_X2_97 : zML RX2 97 yX2_whenOthersGone := Or.inl (zt_inT zh3 141 (by decide +kernel))
theorem l_L_109 : zML RL 109 yX9_served := Or.inl (zt_inT zh3 145 (by decide +kernel))
theorem l_X9_223 : zML RX9 223 yX7_servedAs := Or.inl (zt_inT zh3 149 (by decide +kernel))
theorem l_X7_68 : zML RX7 68 yX0_passUnserved := Or.inl (zt_inT zh3 153 (by decide +kernel))
theorem l_X7_71 : zML RX7 71 yX0_pourOne := Or.inl (zt_inT zh3 154 (by decide +kernel))
theorem l_L_113 : zML RL 113 yX9_who := Or.inl (zt_inT zh3 155 (by decide +kernel))
theorem l_X9_226 : zML RX9 226 yX4_fitting := Or.inl (zt_inT zh3 159 (by decide +kernel))
theorem l_X4_22 : zML RX4 22 yX0_copyFrom := Or.inl (zt_inT zh3 163 (by decide +kernel))
theorem l_X4_28 : zML RX4 28 yX0_remake := Or.inl (zt_inT zh3 164 (by decide +kernel))
theorem l_X4_32 : zML RX4 32 yX4_goesAsTold := Or.inl (zt_inT zh3 168 (by decide +kernel))
theorem l_X4_45 : zML RX4 45 yX6_at := Or.inl (zt_inT zh3 172 (by decide +kernel))
theorem l_X4_49 : zML RX4 49 yX0_passOne := Or.inl (zt_inT zh3 173 (by decide +kernel))
theorem l_X9_230 : zML RX9 230 yJ6_bitCount_0f7a4 := Or.inl (zt_inT zh3 174 (by decide +kernel))
theorem n_J6_265 : Cond.constant RJ6 265 (1431655765 : Int32) ∈ zt := zt_inT zh3 177 (by decide +kernel)
theorem n_J6_266 : Cond.constant RJ6 266 (858993459 : Int32) ∈ zt := zt_inT zh3 178 (by decide +kernel)
theorem n_J6_267 : Cond.constant RJ6 267 (252645135 : Int32) ∈ zt := zt_inT zh3 179 (by decide +kernel)
theorem l_L_117 : zML RL 117 yX9_look := Or.inl (zt_inT zh3 180 (by decide +kernel))
theorem l_X9_235 : zML RX9 235 yX4_mostUnlike := Or.inl (zt_inT zh3 184 (by decide +kernel))
theorem l_X4_52 : zML RX4 52 yX4_noteStates := Or.inl (zt_inT zh3 188 (by decide +kernel))
theorem l_X4_56 : zML RX4 56 yJ6_bitCount_0f7a4 := Or.inl (zt_inT zh3 192 (by decide +kernel))
theorem l_L_121 : zML RL 121 yX9_away := Or.inl (zt_inT zh3 193 (by decide +kernel))
theorem l_X9_238 : zML RX9 238 yX9_refuseLong := Or.inl (zt_inT zh3 197 (by decide +kernel))
theorem n_X9_303 : Cond.constantLong RX9 303 (4000000000000000000 : Int64) ∈ zt := zt_inT zh3 201 (by decide +kernel)
theorem l_X9_242 : zML RX9 242 yX4_likelyServed := Or.inl (zt_inT zh3 202 (by decide +kernel))
theorem l_X4_61 : zML RX4 61 yX4_passAway := Or.inl (zt_inT zh3 206 (by decide +kernel))
theorem l_X4_74 : zML RX4 74 yX0_passUnserved := Or.inl (zt_inT zh3 210 (by decide +kernel))
theorem l_X4_68 : zML RX4 68 yX3_part := Or.inl (zt_inT zh3 211 (by decide +kernel))
theorem l_X3_7 : zML RX3 7 yX3_commonDivisor := Or.inl (zt_inT zh3 214 (by decide +kernel))
theorem l_L_126 : zML RL 126 yX9_crowd := Or.inl (zt_inT zh3 217 (by decide +kernel))
theorem l_X9_246 : zML RX9 246 yX7_mostStanding := Or.inl (zt_inT zh3 221 (by decide +kernel))
theorem l_L_130 : zML RL 130 yX9_caller := Or.inl (zt_inT zh3 225 (by decide +kernel))
theorem l_X9_252 : zML RX9 252 yX2_soonestCaller := Or.inl (zt_inT zh3 229 (by decide +kernel))
theorem l_X2_103 : zML RX2 103 yX0_come := Or.inl (zt_inT zh3 233 (by decide +kernel))
theorem l_X2_106 : zML RX2 106 yX0_passTillGone := Or.inl (zt_inT zh3 234 (by decide +kernel))
theorem l_L_134 : zML RL 134 yX9_stuck := Or.inl (zt_inT zh3 235 (by decide +kernel))
theorem l_X9_255 : zML RX9 255 yX7_isStuck := Or.inl (zt_inT zh3 239 (by decide +kernel))
theorem l_L_138 : zML RL 138 yX9_longest := Or.inl (zt_inT zh4 3 (by decide +kernel))
theorem l_X9_258 : zML RX9 258 yX7_longestStanding := Or.inl (zt_inT zh4 7 (by decide +kernel))
theorem l_X7_74 : zML RX7 74 yX7_minutesStoodBy := Or.inl (zt_inT zh4 11 (by decide +kernel))
theorem l_L_142 : zML RL 142 yX9_leaver := Or.inl (zt_inT zh4 15 (by decide +kernel))
theorem l_X9_261 : zML RX9 261 yX7_leaverAt := Or.inl (zt_inT zh4 19 (by decide +kernel))
theorem l_L_146 : zML RL 146 yX9_waited := Or.inl (zt_inT zh4 23 (by decide +kernel))
theorem l_X9_264 : zML RX9 264 yX7_minutesStood := Or.inl (zt_inT zh4 27 (by decide +kernel))
theorem l_X9_267 : zML RX9 267 yX7_cupsIdle := Or.inl (zt_inT zh4 31 (by decide +kernel))
theorem l_L_150 : zML RL 150 yX9_bestOf := Or.inl (zt_inT zh4 35 (by decide +kernel))
theorem l_X9_270 : zML RX9 270 yX2_soonestAs := Or.inl (zt_inT zh4 39 (by decide +kernel))
theorem l_X2_109 : zML RX2 109 yX0_remake := Or.inl (zt_inT zh4 43 (by decide +kernel))
theorem l_L_154 : zML RL 154 yX9_kept := Or.inl (zt_inT zh4 44 (by decide +kernel))
theorem l_X9_273 : zML RX9 273 yX2_gainWithCray := Or.inl (zt_inT zh4 48 (by decide +kernel))
theorem l_L_158 : zML RL 158 yX9_dry := Or.inl (zt_inT zh4 52 (by decide +kernel))
theorem l_X9_276 : zML RX9 276 yX7_goneWithoutTea := Or.inl (zt_inT zh4 56 (by decide +kernel))
theorem l_L_162 : zML RL 162 yX9_company := Or.inl (zt_inT zh4 60 (by decide +kernel))
theorem l_X9_279 : zML RX9 279 yX7_bothDrinking := Or.inl (zt_inT zh4 64 (by decide +kernel))
theorem l_L_166 : zML RL 166 yX9_mean := Or.inl (zt_inT zh4 68 (by decide +kernel))
theorem l_X9_282 : zML RX9 282 yX7_meanOfLeaving := Or.inl (zt_inT zh4 72 (by decide +kernel))
theorem l_X7_81 : zML RX7 81 yX7_whenGone := Or.inl (zt_inT zh4 76 (by decide +kernel))
theorem l_X7_84 : zML RX7 84 yJ9_max_7cf53 := Or.inl (zt_inT zh4 77 (by decide +kernel))
theorem l_X7_89 : zML RX7 89 yX3_part := Or.inl (zt_inT zh4 78 (by decide +kernel))
theorem l_L_171 : zML RL 171 yX9_hostess := Or.inl (zt_inT zh4 79 (by decide +kernel))
theorem l_X9_285 : zML RX9 285 yX2_leastThirst := Or.inl (zt_inT zh4 83 (by decide +kernel))
theorem l_X2_113 : zML RX2 113 yX0_wholeThirst := Or.inl (zt_inT zh4 87 (by decide +kernel))
theorem l_L_175 : zML RL 175 yX9_row := Or.inl (zt_inT zh4 88 (by decide +kernel))
theorem l_L_179 : zML RL 179 yX9_judge := Or.inl (zt_inT zh4 92 (by decide +kernel))
theorem l_X9_288 : zML RX9 288 yX4_firstWrongThirst := Or.inl (zt_inT zh4 96 (by decide +kernel))
theorem l_L_183 : zML RL 183 yX9_clear := Or.inl (zt_inT zh4 100 (by decide +kernel))
theorem l_L_187 : zML RL 187 yX9_lots := Or.inl (zt_inT zh4 104 (by decide +kernel))
theorem l_X9_293 : zML RX9 293 yX4_drawn := Or.inl (zt_inT zh4 108 (by decide +kernel))
theorem n_X4_83 : Cond.constant RX4 83 (1103515245 : Int32) ∈ zt := zt_inT zh4 112 (by decide +kernel)
theorem n_X4_84 : Cond.constant RX4 84 (2147483647 : Int32) ∈ zt := zt_inT zh4 113 (by decide +kernel)
theorem n_X4_85 : Cond.constant RX4 85 (65536 : Int32) ∈ zt := zt_inT zh4 114 (by decide +kernel)
theorem l_X4_86 : zML RX4 86 yX0_pass := Or.inl (zt_inT zh4 115 (by decide +kernel))
theorem l_X4_90 : zML RX4 90 yX0_howMany := Or.inl (zt_inT zh4 116 (by decide +kernel))
theorem l_L_191 : zML RL 191 yX9_image := Or.inl (zt_inT zh4 117 (by decide +kernel))
theorem l_L_195 : zML RL 195 yX9_restore := Or.inl (zt_inT zh4 121 (by decide +kernel))
theorem l_L_199 : zML RL 199 yX9_count := Or.inl (zt_inT zh4 125 (by decide +kernel))
theorem l_L_12 : zML RL 12 yX10_init := Or.inl (zt_inT zh4 131 (by decide +kernel))
theorem f_X10_7 : zFL RX10 7 7 0 := ⟨RX10, TX10, 30, zK7, by decide, Or.inl (zt_inT zh4 135 (by decide +kernel))⟩
theorem f_X10_13 : zFL RX10 13 7 1 := ⟨RX10, TX10, 30, zK7, by decide, Or.inl (zt_inT zh4 136 (by decide +kernel))⟩
theorem f_X10_16 : zFL RX10 16 7 2 := ⟨RX10, TX10, 30, zK7, by decide, Or.inl (zt_inT zh4 137 (by decide +kernel))⟩
theorem f_X10_19 : zFL RX10 19 7 3 := ⟨RX10, TX10, 30, zK7, by decide, Or.inl (zt_inT zh4 138 (by decide +kernel))⟩
theorem f_X10_22 : zFL RX10 22 7 4 := ⟨RX10, TX10, 30, zK7, by decide, Or.inl (zt_inT zh4 139 (by decide +kernel))⟩
theorem f_X10_25 : zFL RX10 25 7 5 := ⟨RX10, TX10, 30, zK7, by decide, Or.inl (zt_inT zh4 140 (by decide +kernel))⟩
theorem f_X10_28 : zFL RX10 28 7 6 := ⟨RX10, TX10, 30, zK7, by decide, Or.inl (zt_inT zh4 141 (by decide +kernel))⟩
theorem f_X10_65 : zFL RX10 65 7 7 := ⟨RX10, TX10, 30, zK7, by decide, Or.inl (zt_inT zh4 142 (by decide +kernel))⟩
theorem f_X10_58 : zFL RX10 58 7 8 := ⟨RX10, TX10, 30, zK7, by decide, Or.inl (zt_inT zh4 143 (by decide +kernel))⟩
theorem f_X10_124 : zFL RX10 124 7 9 := ⟨RX10, TX10, 30, zK7, by decide, Or.inl (zt_inT zh4 144 (by decide +kernel))⟩
theorem f_X10_104 : zFL RX10 104 7 10 := ⟨RX10, TX10, 30, zK7, by decide, Or.inl (zt_inT zh4 145 (by decide +kernel))⟩
theorem f_X10_161 : zFL RX10 161 7 11 := ⟨RX10, TX10, 30, zK7, by decide, Or.inl (zt_inT zh4 146 (by decide +kernel))⟩
theorem f_X10_31 : zFL RX10 31 7 12 := ⟨RX10, TX10, 30, zK7, by decide, Or.inl (zt_inT zh4 147 (by decide +kernel))⟩
theorem f_X10_34 : zFL RX10 34 7 13 := ⟨RX10, TX10, 30, zK7, by decide, Or.inl (zt_inT zh4 148 (by decide +kernel))⟩
theorem f_X10_37 : zFL RX10 37 7 14 := ⟨RX10, TX10, 30, zK7, by decide, Or.inl (zt_inT zh4 149 (by decide +kernel))⟩
theorem f_X10_40 : zFL RX10 40 7 15 := ⟨RX10, TX10, 30, zK7, by decide, Or.inl (zt_inT zh4 150 (by decide +kernel))⟩
theorem f_X10_72 : zFL RX10 72 7 16 := ⟨RX10, TX10, 30, zK7, by decide, Or.inl (zt_inT zh4 151 (by decide +kernel))⟩
theorem f_X10_79 : zFL RX10 79 7 17 := ⟨RX10, TX10, 30, zK7, by decide, Or.inl (zt_inT zh4 152 (by decide +kernel))⟩
theorem f_X10_90 : zFL RX10 90 7 18 := ⟨RX10, TX10, 30, zK7, by decide, Or.inl (zt_inT zh4 153 (by decide +kernel))⟩
theorem f_X10_43 : zFL RX10 43 7 19 := ⟨RX10, TX10, 30, zK7, by decide, Or.inl (zt_inT zh4 154 (by decide +kernel))⟩
theorem f_X10_164 : zFL RX10 164 7 20 := ⟨RX10, TX10, 30, zK7, by decide, Or.inl (zt_inT zh4 155 (by decide +kernel))⟩
theorem f_X10_147 : zFL RX10 147 7 21 := ⟨RX10, TX10, 30, zK7, by decide, Or.inl (zt_inT zh4 156 (by decide +kernel))⟩
theorem f_X10_151 : zFL RX10 151 7 22 := ⟨RX10, TX10, 30, zK7, by decide, Or.inl (zt_inT zh4 157 (by decide +kernel))⟩
theorem f_X10_144 : zFL RX10 144 7 23 := ⟨RX10, TX10, 30, zK7, by decide, Or.inl (zt_inT zh4 158 (by decide +kernel))⟩
theorem f_X10_46 : zFL RX10 46 7 24 := ⟨RX10, TX10, 30, zK7, by decide, Or.inl (zt_inT zh4 159 (by decide +kernel))⟩
theorem f_X10_188 : zFL RX10 188 7 25 := ⟨RX10, TX10, 30, zK7, by decide, Or.inl (zt_inT zh4 160 (by decide +kernel))⟩
theorem f_X10_49 : zFL RX10 49 7 26 := ⟨RX10, TX10, 30, zK7, by decide, Or.inl (zt_inT zh4 161 (by decide +kernel))⟩
theorem f_X10_256 : zFL RX10 256 7 27 := ⟨RX10, TX10, 30, zK7, by decide, Or.inl (zt_inT zh4 162 (by decide +kernel))⟩
theorem f_X10_52 : zFL RX10 52 7 28 := ⟨RX10, TX10, 30, zK7, by decide, Or.inl (zt_inT zh4 163 (by decide +kernel))⟩
theorem f_X10_55 : zFL RX10 55 7 29 := ⟨RX10, TX10, 30, zK7, by decide, Or.inl (zt_inT zh4 164 (by decide +kernel))⟩
theorem l_L_17 : zML RL 17 yX10_feed := Or.inl (zt_inT zh4 226 (by decide +kernel))
theorem l_X10_68 : zML RX10 68 yX10_bound := Or.inl (zt_inT zh4 230 (by decide +kernel))
theorem l_X10_75 : zML RX10 75 yX10_no := Or.inl (zt_inT zh4 233 (by decide +kernel))
theorem l_L_22 : zML RL 22 yX10_house := Or.inl (zt_inT zh4 237 (by decide +kernel))
theorem l_X10_133 : zML RX10 133 yX10_statement := Or.inl (zt_inT zh5 1 (by decide +kernel))
theorem l_X10_82 : zML RX10 82 yX10_next := Or.inl (zt_inT zh5 5 (by decide +kernel))
theorem l_X10_93 : zML RX10 93 yX10_readsDigits := Or.inl (zt_inT zh5 9 (by decide +kernel))
theorem l_X10_86 : zML RX10 86 yX10_isIn := Or.inl (zt_inT zh5 13 (by decide +kernel))
theorem l_X10_137 : zML RX10 137 yX10_passesAll := Or.inl (zt_inT zh5 16 (by decide +kernel))
theorem l_X10_154 : zML RX10 154 yX10_passes := Or.inl (zt_inT zh5 20 (by decide +kernel))
theorem l_X10_158 : zML RX10 158 yX10_passOne := Or.inl (zt_inT zh5 24 (by decide +kernel))
theorem l_X10_141 : zML RX10 141 yX10_comes := Or.inl (zt_inT zh5 28 (by decide +kernel))
theorem l_X10_118 : zML RX10 118 yX10_comesGuest := Or.inl (zt_inT zh5 32 (by decide +kernel))
theorem l_X10_97 : zML RX10 97 yX10_adds := Or.inl (zt_inT zh5 36 (by decide +kernel))
theorem l_X10_121 : zML RX10 121 yX10_comesCups := Or.inl (zt_inT zh5 40 (by decide +kernel))
theorem l_X10_101 : zML RX10 101 yX10_manyIn := Or.inl (zt_inT zh5 44 (by decide +kernel))
theorem l_X10_127 : zML RX10 127 yX10_comesMinutes := Or.inl (zt_inT zh5 48 (by decide +kernel))
theorem l_X10_107 : zML RX10 107 yX10_goes := Or.inl (zt_inT zh5 52 (by decide +kernel))
theorem l_X10_197 : zML RX10 197 yX10_goesMinute := Or.inl (zt_inT zh5 56 (by decide +kernel))
theorem l_X10_191 : zML RX10 191 yX10_goesOne := Or.inl (zt_inT zh5 60 (by decide +kernel))
theorem l_X10_173 : zML RX10 173 yX10_limitOf := Or.inl (zt_inT zh5 64 (by decide +kernel))
theorem l_X10_115 : zML RX10 115 yX10_standsUp := Or.inl (zt_inT zh5 68 (by decide +kernel))
theorem l_X10_176 : zML RX10 176 yX10_patienceOf := Or.inl (zt_inT zh5 72 (by decide +kernel))
theorem l_X10_179 : zML RX10 179 yX10_drinksOn := Or.inl (zt_inT zh5 76 (by decide +kernel))
theorem l_X10_167 : zML RX10 167 yX10_sipOf := Or.inl (zt_inT zh5 80 (by decide +kernel))
theorem l_X10_170 : zML RX10 170 yX10_enoughOf := Or.inl (zt_inT zh5 84 (by decide +kernel))
theorem l_X10_194 : zML RX10 194 yX10_pours := Or.inl (zt_inT zh5 88 (by decide +kernel))
theorem l_X10_185 : zML RX10 185 yX10_nextServed := Or.inl (zt_inT zh5 92 (by decide +kernel))
theorem l_X10_182 : zML RX10 182 yX10_isAhead := Or.inl (zt_inT zh5 96 (by decide +kernel))
theorem l_X10_130 : zML RX10 130 yX10_comesTo := Or.inl (zt_inT zh5 100 (by decide +kernel))
theorem l_X10_111 : zML RX10 111 yX10_isGuest := Or.inl (zt_inT zh5 104 (by decide +kernel))
theorem l_L_56 : zML RL 56 yX10_back := Or.inl (zt_inT zh5 108 (by decide +kernel))
theorem l_L_194 : zML RL 194 yX10_image := Or.inl (zt_inT zh5 112 (by decide +kernel))
theorem l_L_198 : zML RL 198 yX10_restore := Or.inl (zt_inT zh5 116 (by decide +kernel))
theorem l_L_27 : zML RL 27 yX10_guestOf := Or.inl (zt_inT zh5 120 (by decide +kernel))
theorem l_L_32 : zML RL 32 yX10_guest := Or.inl (zt_inT zh5 124 (by decide +kernel))
theorem l_L_36 : zML RL 36 yX10_rises := Or.inl (zt_inT zh5 128 (by decide +kernel))
theorem l_X10_201 : zML RX10 201 yX10_keepsBack := Or.inl (zt_inT zh5 132 (by decide +kernel))
theorem l_L_40 : zML RL 40 yX10_slips := Or.inl (zt_inT zh5 136 (by decide +kernel))
theorem l_L_44 : zML RL 44 yX10_cups := Or.inl (zt_inT zh5 140 (by decide +kernel))
theorem l_L_48 : zML RL 48 yX10_rule := Or.inl (zt_inT zh5 144 (by decide +kernel))
theorem l_L_52 : zML RL 52 yX10_minutes := Or.inl (zt_inT zh5 148 (by decide +kernel))
theorem l_L_60 : zML RL 60 yX10_behind := Or.inl (zt_inT zh5 152 (by decide +kernel))
theorem l_X10_204 : zML RX10 204 yX10_notMinutes := Or.inl (zt_inT zh5 156 (by decide +kernel))
theorem l_X10_207 : zML RX10 207 yX10_thinks := Or.inl (zt_inT zh5 159 (by decide +kernel))
theorem l_X10_210 : zML RX10 210 yX10_forgets := Or.inl (zt_inT zh5 163 (by decide +kernel))
theorem l_L_64 : zML RL 64 yX10_all := Or.inl (zt_inT zh5 167 (by decide +kernel))
theorem l_X10_213 : zML RX10 213 yX10_allThirst := Or.inl (zt_inT zh5 171 (by decide +kernel))
theorem l_L_68 : zML RL 68 yX10_leaves := Or.inl (zt_inT zh5 175 (by decide +kernel))
theorem l_X10_222 : zML RX10 222 yX10_goneBy := Or.inl (zt_inT zh5 179 (by decide +kernel))
theorem l_X10_219 : zML RX10 219 yX10_areGone := Or.inl (zt_inT zh5 183 (by decide +kernel))
theorem l_X10_216 : zML RX10 216 yX10_has := Or.inl (zt_inT zh5 187 (by decide +kernel))
theorem l_X10_225 : zML RX10 225 yX10_orNone := Or.inl (zt_inT zh5 190 (by decide +kernel))
theorem l_L_72 : zML RL 72 yX10_gone := Or.inl (zt_inT zh5 193 (by decide +kernel))
theorem l_X10_228 : zML RX10 228 yX10_everybody := Or.inl (zt_inT zh5 197 (by decide +kernel))
theorem l_L_76 : zML RL 76 yX10_tastes := Or.inl (zt_inT zh5 201 (by decide +kernel))
theorem l_X10_231 : zML RX10 231 yX10_tasteOf := Or.inl (zt_inT zh5 205 (by decide +kernel))
theorem l_L_80 : zML RL 80 yX10_thirsty := Or.inl (zt_inT zh5 209 (by decide +kernel))
theorem l_L_84 : zML RL 84 yX10_cupsWanted := Or.inl (zt_inT zh5 213 (by decide +kernel))
theorem l_L_88 : zML RL 88 yX10_bestRule := Or.inl (zt_inT zh5 217 (by decide +kernel))
theorem l_X10_234 : zML RX10 234 yX10_pouredIn := Or.inl (zt_inT zh5 221 (by decide +kernel))
theorem l_L_92 : zML RL 92 yX10_rising := Or.inl (zt_inT zh5 225 (by decide +kernel))
theorem l_X10_237 : zML RX10 237 yX10_whoSit := Or.inl (zt_inT zh5 229 (by decide +kernel))
theorem l_X10_240 : zML RX10 240 yX10_goneRising := Or.inl (zt_inT zh5 233 (by decide +kernel))
theorem l_L_96 : zML RL 96 yX10_bestRise := Or.inl (zt_inT zh5 237 (by decide +kernel))
theorem l_X10_244 : zML RX10 244 yX10_goneRisingIn := Or.inl (zt_inT zh6 1 (by decide +kernel))
theorem l_L_100 : zML RL 100 yX10_two := Or.inl (zt_inT zh6 5 (by decide +kernel))
theorem l_X10_247 : zML RX10 247 yX10_isSooner := Or.inl (zt_inT zh6 9 (by decide +kernel))
theorem l_L_104 : zML RL 104 yX10_rest := Or.inl (zt_inT zh6 13 (by decide +kernel))
theorem l_X10_250 : zML RX10 250 yX10_isAtRest := Or.inl (zt_inT zh6 17 (by decide +kernel))
theorem l_L_108 : zML RL 108 yX10_garden := Or.inl (zt_inT zh6 21 (by decide +kernel))
theorem l_X10_253 : zML RX10 253 yX10_lower := Or.inl (zt_inT zh6 25 (by decide +kernel))
theorem n_X10_62 : Cond.constant RX10 62 (1000000000 : Int32) ∈ zt := zt_inT zh6 29 (by decide +kernel)
theorem l_L_112 : zML RL 112 yX10_served := Or.inl (zt_inT zh6 30 (by decide +kernel))
theorem l_L_116 : zML RL 116 yX10_who := Or.inl (zt_inT zh6 34 (by decide +kernel))
theorem l_X10_262 : zML RX10 262 yX10_bitsFor := Or.inl (zt_inT zh6 38 (by decide +kernel))
theorem l_X10_259 : zML RX10 259 yX10_isSo := Or.inl (zt_inT zh6 42 (by decide +kernel))
theorem l_X10_266 : zML RX10 266 yX10_thirstsFor := Or.inl (zt_inT zh6 46 (by decide +kernel))
theorem l_L_120 : zML RL 120 yX10_look := Or.inl (zt_inT zh6 50 (by decide +kernel))
theorem l_X10_269 : zML RX10 269 yX10_bits := Or.inl (zt_inT zh6 54 (by decide +kernel))
theorem l_L_125 : zML RL 125 yX10_away := Or.inl (zt_inT zh6 57 (by decide +kernel))
theorem l_X10_272 : zML RX10 272 yX10_lowest := Or.inl (zt_inT zh6 61 (by decide +kernel))
theorem n_X10_63 : Cond.constantLong RX10 63 (4000000000000000000 : Int64) ∈ zt := zt_inT zh6 65 (by decide +kernel)
theorem l_X10_276 : zML RX10 276 yX10_divisor := Or.inl (zt_inT zh6 66 (by decide +kernel))
theorem l_L_129 : zML RL 129 yX10_crowd := Or.inl (zt_inT zh6 69 (by decide +kernel))
theorem l_L_133 : zML RL 133 yX10_caller := Or.inl (zt_inT zh6 73 (by decide +kernel))
theorem l_X10_280 : zML RX10 280 yX10_goneAs := Or.inl (zt_inT zh6 77 (by decide +kernel))
theorem l_L_137 : zML RL 137 yX10_stuck := Or.inl (zt_inT zh6 81 (by decide +kernel))
theorem l_L_141 : zML RL 141 yX10_longest := Or.inl (zt_inT zh6 85 (by decide +kernel))
theorem l_L_145 : zML RL 145 yX10_leaver := Or.inl (zt_inT zh6 89 (by decide +kernel))
theorem l_X10_283 : zML RX10 283 yX10_whoAre := Or.inl (zt_inT zh6 93 (by decide +kernel))
theorem l_L_149 : zML RL 149 yX10_waited := Or.inl (zt_inT zh6 97 (by decide +kernel))
theorem l_L_153 : zML RL 153 yX10_bestOf := Or.inl (zt_inT zh6 101 (by decide +kernel))
theorem l_X10_286 : zML RX10 286 yX10_bestIn := Or.inl (zt_inT zh6 105 (by decide +kernel))
theorem l_L_157 : zML RL 157 yX10_kept := Or.inl (zt_inT zh6 109 (by decide +kernel))
theorem l_L_161 : zML RL 161 yX10_dry := Or.inl (zt_inT zh6 113 (by decide +kernel))
theorem l_L_165 : zML RL 165 yX10_company := Or.inl (zt_inT zh6 117 (by decide +kernel))
theorem l_L_170 : zML RL 170 yX10_mean := Or.inl (zt_inT zh6 121 (by decide +kernel))
theorem l_L_174 : zML RL 174 yX10_hostess := Or.inl (zt_inT zh6 125 (by decide +kernel))
theorem l_X10_289 : zML RX10 289 yX10_thirstIn := Or.inl (zt_inT zh6 129 (by decide +kernel))
theorem l_L_178 : zML RL 178 yX10_row := Or.inl (zt_inT zh6 133 (by decide +kernel))
theorem l_L_182 : zML RL 182 yX10_judge := Or.inl (zt_inT zh6 137 (by decide +kernel))
theorem l_L_186 : zML RL 186 yX10_clear := Or.inl (zt_inT zh6 141 (by decide +kernel))
theorem l_L_190 : zML RL 190 yX10_lots := Or.inl (zt_inT zh6 145 (by decide +kernel))
theorem n_X10_292 : Cond.constant RX10 292 (1103515245 : Int32) ∈ zt := zt_inT zh6 149 (by decide +kernel)
theorem n_X10_293 : Cond.constant RX10 293 (2147483647 : Int32) ∈ zt := zt_inT zh6 150 (by decide +kernel)
theorem n_X10_294 : Cond.constant RX10 294 (65536 : Int32) ∈ zt := zt_inT zh6 151 (by decide +kernel)
theorem l_L_202 : zML RL 202 yX10_count := Or.inl (zt_inT zh6 152 (by decide +kernel))
theorem l_copy : Cond.native arraycopyName ∈ zt ∧ Cond.static arraycopyName ∈ zt ∧ Cond.initialized "java/lang/System" ∈ zt := ⟨zt_inT zh2 27 (by decide +kernel), zt_inT zh2 26 (by decide +kernel), zt_inT zh1 11 (by decide +kernel)⟩
theorem t_0_6 : zFT 0 6 .int := fun C T N h => by cases h; exact ⟨rfl, by decide +kernel⟩
theorem t_0_7 : zFT 0 7 .int := fun C T N h => by cases h; exact ⟨rfl, by decide +kernel⟩
theorem t_0_8 : zFT 0 8 .int := fun C T N h => by cases h; exact ⟨rfl, by decide +kernel⟩
theorem t_0_9 : zFT 0 9 .int := fun C T N h => by cases h; exact ⟨rfl, by decide +kernel⟩
theorem t_0_10 : zFT 0 10 .int := fun C T N h => by cases h; exact ⟨rfl, by decide +kernel⟩
theorem t_1_5 : zFT 1 5 .int := fun C T N h => by cases h; exact ⟨rfl, by decide +kernel⟩
theorem t_1_6 : zFT 1 6 .int := fun C T N h => by cases h; exact ⟨rfl, by decide +kernel⟩
theorem t_4_1 : zFT 4 1 .int := fun C T N h => by cases h; exact ⟨rfl, by decide +kernel⟩
theorem t_6_10 : zFT 6 10 .boolean := fun C T N h => by cases h; exact ⟨rfl, by decide +kernel⟩
theorem t_7_7 : zFT 7 7 .int := fun C T N h => by cases h; exact ⟨rfl, by decide +kernel⟩
theorem t_7_8 : zFT 7 8 .int := fun C T N h => by cases h; exact ⟨rfl, by decide +kernel⟩
theorem t_7_9 : zFT 7 9 .int := fun C T N h => by cases h; exact ⟨rfl, by decide +kernel⟩
theorem t_7_10 : zFT 7 10 .int := fun C T N h => by cases h; exact ⟨rfl, by decide +kernel⟩
theorem t_7_11 : zFT 7 11 .int := fun C T N h => by cases h; exact ⟨rfl, by decide +kernel⟩
theorem t_7_16 : zFT 7 16 .int := fun C T N h => by cases h; exact ⟨rfl, by decide +kernel⟩
theorem t_7_17 : zFT 7 17 .int := fun C T N h => by cases h; exact ⟨rfl, by decide +kernel⟩
theorem t_7_18 : zFT 7 18 .int := fun C T N h => by cases h; exact ⟨rfl, by decide +kernel⟩
theorem t_7_20 : zFT 7 20 .boolean := fun C T N h => by cases h; exact ⟨rfl, by decide +kernel⟩
theorem t_7_21 : zFT 7 21 .boolean := fun C T N h => by cases h; exact ⟨rfl, by decide +kernel⟩
theorem t_7_22 : zFT 7 22 .int := fun C T N h => by cases h; exact ⟨rfl, by decide +kernel⟩
theorem t_7_23 : zFT 7 23 .int := fun C T N h => by cases h; exact ⟨rfl, by decide +kernel⟩
theorem t_7_25 : zFT 7 25 .int := fun C T N h => by cases h; exact ⟨rfl, by decide +kernel⟩
theorem t_7_27 : zFT 7 27 .int := fun C T N h => by cases h; exact ⟨rfl, by decide +kernel⟩
theorem m_X0_copyFrom : zMV kX0_copyFrom 0 1 := ⟨⟨zt_inT zh2 24 (by decide +kernel), zt_inT zh1 2 (by decide +kernel), ⟨by decide, by decide, by decide +kernel⟩, by decide⟩, zt_inT zh2 22 (by decide +kernel), zt_inT zh2 23 (by decide +kernel), rfl⟩
theorem m_X0_has : zMV kX0_has 0 1 := ⟨⟨zt_inT zh2 58 (by decide +kernel), zt_inT zh1 2 (by decide +kernel), ⟨by decide, by decide, by decide +kernel⟩, by decide⟩, zt_inT zh2 56 (by decide +kernel), zt_inT zh2 57 (by decide +kernel), rfl⟩
theorem m_X0_areTwo : zMV kX0_areTwo 0 2 := ⟨⟨zt_inT zh3 100 (by decide +kernel), zt_inT zh1 2 (by decide +kernel), ⟨by decide, by decide, by decide +kernel⟩, by decide⟩, zt_inT zh3 98 (by decide +kernel), zt_inT zh3 99 (by decide +kernel), rfl⟩
theorem m_X0_whyNotCome : zMV kX0_whyNotCome 0 3 := ⟨⟨zt_inT zh2 43 (by decide +kernel), zt_inT zh1 2 (by decide +kernel), ⟨by decide, by decide, by decide +kernel⟩, by decide⟩, zt_inT zh2 41 (by decide +kernel), zt_inT zh2 42 (by decide +kernel), rfl⟩
theorem m_X0_whyNotRise : zMV kX0_whyNotRise 0 1 := ⟨⟨zt_inT zh2 54 (by decide +kernel), zt_inT zh1 2 (by decide +kernel), ⟨by decide, by decide, by decide +kernel⟩, by decide⟩, zt_inT zh2 52 (by decide +kernel), zt_inT zh2 53 (by decide +kernel), rfl⟩
theorem m_X0_whyNotSlip : zMV kX0_whyNotSlip 0 1 := ⟨⟨zt_inT zh2 66 (by decide +kernel), zt_inT zh1 2 (by decide +kernel), ⟨by decide, by decide, by decide +kernel⟩, by decide⟩, zt_inT zh2 64 (by decide +kernel), zt_inT zh2 65 (by decide +kernel), rfl⟩
theorem m_X0_whyNotCups : zMV kX0_whyNotCups 0 1 := ⟨⟨zt_inT zh2 70 (by decide +kernel), zt_inT zh1 2 (by decide +kernel), ⟨by decide, by decide, by decide +kernel⟩, by decide⟩, zt_inT zh2 68 (by decide +kernel), zt_inT zh2 69 (by decide +kernel), rfl⟩
theorem m_X0_whyNotPass : zMV kX0_whyNotPass 0 1 := ⟨⟨zt_inT zh2 79 (by decide +kernel), zt_inT zh1 2 (by decide +kernel), ⟨by decide, by decide, by decide +kernel⟩, by decide⟩, zt_inT zh2 77 (by decide +kernel), zt_inT zh2 78 (by decide +kernel), rfl⟩
theorem m_X0_come : zMV kX0_come 0 3 := ⟨⟨zt_inT zh2 50 (by decide +kernel), zt_inT zh1 2 (by decide +kernel), ⟨by decide, by decide, by decide +kernel⟩, by decide⟩, zt_inT zh2 48 (by decide +kernel), zt_inT zh2 49 (by decide +kernel), rfl⟩
theorem m_X0_rise : zMV kX0_rise 0 1 := ⟨⟨zt_inT zh2 62 (by decide +kernel), zt_inT zh1 2 (by decide +kernel), ⟨by decide, by decide, by decide +kernel⟩, by decide⟩, zt_inT zh2 60 (by decide +kernel), zt_inT zh2 61 (by decide +kernel), rfl⟩
theorem m_X0_riseAll : zMV kX0_riseAll 0 1 := ⟨⟨zt_inT zh3 77 (by decide +kernel), zt_inT zh1 2 (by decide +kernel), ⟨by decide, by decide, by decide +kernel⟩, by decide⟩, zt_inT zh3 75 (by decide +kernel), zt_inT zh3 76 (by decide +kernel), rfl⟩
theorem m_X0_remake : zMV kX0_remake 0 3 := ⟨⟨zt_inT zh3 167 (by decide +kernel), zt_inT zh1 2 (by decide +kernel), ⟨by decide, by decide, by decide +kernel⟩, by decide⟩, zt_inT zh3 165 (by decide +kernel), zt_inT zh3 166 (by decide +kernel), rfl⟩
theorem m_X0_tellOf : zMV kX0_tellOf 0 2 := ⟨⟨zt_inT zh2 139 (by decide +kernel), zt_inT zh1 2 (by decide +kernel), ⟨by decide, by decide, by decide +kernel⟩, by decide⟩, zt_inT zh2 137 (by decide +kernel), zt_inT zh2 138 (by decide +kernel), rfl⟩
theorem m_X0_howMany : zMV kX0_howMany 0 1 := ⟨⟨zt_inT zh2 74 (by decide +kernel), zt_inT zh1 2 (by decide +kernel), ⟨by decide, by decide, by decide +kernel⟩, by decide⟩, zt_inT zh2 72 (by decide +kernel), zt_inT zh2 73 (by decide +kernel), rfl⟩
theorem m_X0_setOf : zMV kX0_setOf 0 1 := ⟨⟨zt_inT zh3 35 (by decide +kernel), zt_inT zh1 2 (by decide +kernel), ⟨by decide, by decide, by decide +kernel⟩, by decide⟩, zt_inT zh3 33 (by decide +kernel), zt_inT zh3 34 (by decide +kernel), rfl⟩
theorem m_X0_wholeThirst : zMV kX0_wholeThirst 0 0 := ⟨⟨zt_inT zh2 219 (by decide +kernel), zt_inT zh1 2 (by decide +kernel), ⟨by decide, by decide, by decide +kernel⟩, by decide⟩, zt_inT zh2 217 (by decide +kernel), zt_inT zh2 218 (by decide +kernel), rfl⟩
theorem m_X0_allGoneBut : zMV kX0_allGoneBut 0 1 := ⟨⟨zt_inT zh3 15 (by decide +kernel), zt_inT zh1 2 (by decide +kernel), ⟨by decide, by decide, by decide +kernel⟩, by decide⟩, zt_inT zh3 13 (by decide +kernel), zt_inT zh3 14 (by decide +kernel), rfl⟩
theorem m_X0_pass : zMV kX0_pass 0 1 := ⟨⟨zt_inT zh2 83 (by decide +kernel), zt_inT zh1 2 (by decide +kernel), ⟨by decide, by decide, by decide +kernel⟩, by decide⟩, zt_inT zh2 81 (by decide +kernel), zt_inT zh2 82 (by decide +kernel), rfl⟩
theorem m_X0_passOne : zMV kX0_passOne 0 0 := ⟨⟨zt_inT zh2 87 (by decide +kernel), zt_inT zh1 2 (by decide +kernel), ⟨by decide, by decide, by decide +kernel⟩, by decide⟩, zt_inT zh2 85 (by decide +kernel), zt_inT zh2 86 (by decide +kernel), rfl⟩
theorem m_X0_passUnserved : zMV kX0_passUnserved 0 0 := ⟨⟨zt_inT zh2 91 (by decide +kernel), zt_inT zh1 2 (by decide +kernel), ⟨by decide, by decide, by decide +kernel⟩, by decide⟩, zt_inT zh2 89 (by decide +kernel), zt_inT zh2 90 (by decide +kernel), rfl⟩
theorem m_X0_passFor : zMV kX0_passFor 0 1 := ⟨⟨zt_inT zh2 95 (by decide +kernel), zt_inT zh1 2 (by decide +kernel), ⟨by decide, by decide, by decide +kernel⟩, by decide⟩, zt_inT zh2 94 (by decide +kernel), zt_in 1 (by decide +kernel), rfl⟩
theorem m_X0_pourOne : zMV kX0_pourOne 0 0 := ⟨⟨zt_inT zh2 116 (by decide +kernel), zt_inT zh1 2 (by decide +kernel), ⟨by decide, by decide, by decide +kernel⟩, by decide⟩, zt_inT zh2 114 (by decide +kernel), zt_inT zh2 115 (by decide +kernel), rfl⟩
theorem m_X0_isAhead : zMV kX0_isAhead 0 2 := ⟨⟨zt_inT zh2 120 (by decide +kernel), zt_inT zh1 2 (by decide +kernel), ⟨by decide, by decide, by decide +kernel⟩, by decide⟩, zt_inT zh2 119 (by decide +kernel), zt_in 2 (by decide +kernel), rfl⟩
theorem m_X0_passTillGone : zMV kX0_passTillGone 0 1 := ⟨⟨zt_inT zh2 231 (by decide +kernel), zt_inT zh1 2 (by decide +kernel), ⟨by decide, by decide, by decide +kernel⟩, by decide⟩, zt_inT zh2 229 (by decide +kernel), zt_inT zh2 230 (by decide +kernel), rfl⟩
theorem m_X0_passTillAllGoneBut : zMV kX0_passTillAllGoneBut 0 1 := ⟨⟨zt_inT zh3 11 (by decide +kernel), zt_inT zh1 2 (by decide +kernel), ⟨by decide, by decide, by decide +kernel⟩, by decide⟩, zt_inT zh3 9 (by decide +kernel), zt_inT zh3 10 (by decide +kernel), rfl⟩
theorem m_X1_keep : zMV kX1_keep 1 2 := ⟨⟨zt_inT zh2 154 (by decide +kernel), zt_inT zh1 5 (by decide +kernel), ⟨by decide, by decide, by decide +kernel⟩, by decide⟩, zt_inT zh2 152 (by decide +kernel), zt_inT zh2 153 (by decide +kernel), rfl⟩
theorem m_X1_takeBack : zMV kX1_takeBack 1 1 := ⟨⟨zt_inT zh2 186 (by decide +kernel), zt_inT zh1 5 (by decide +kernel), ⟨by decide, by decide, by decide +kernel⟩, by decide⟩, zt_inT zh2 184 (by decide +kernel), zt_inT zh2 185 (by decide +kernel), rfl⟩
theorem m_X1_forget : zMV kX1_forget 1 0 := ⟨⟨zt_inT zh2 129 (by decide +kernel), zt_inT zh1 5 (by decide +kernel), ⟨by decide, by decide, by decide +kernel⟩, by decide⟩, zt_inT zh2 127 (by decide +kernel), zt_inT zh2 128 (by decide +kernel), rfl⟩
theorem m_X2_fewestCups : zMV kX2_fewestCups 2 1 := ⟨⟨zt_inT zh3 47 (by decide +kernel), zt_inT zh1 7 (by decide +kernel), ⟨by decide, by decide, by decide +kernel⟩, by decide⟩, zt_inT zh3 45 (by decide +kernel), zt_inT zh3 46 (by decide +kernel), rfl⟩
theorem m_X2_soonestRule : zMV kX2_soonestRule 2 0 := ⟨⟨zt_inT zh3 59 (by decide +kernel), zt_inT zh1 7 (by decide +kernel), ⟨by decide, by decide, by decide +kernel⟩, by decide⟩, zt_inT zh3 57 (by decide +kernel), zt_inT zh3 58 (by decide +kernel), rfl⟩
theorem m_X2_mostPouredRule : zMV kX2_mostPouredRule 2 0 := ⟨⟨zt_inT zh3 63 (by decide +kernel), zt_inT zh1 7 (by decide +kernel), ⟨by decide, by decide, by decide +kernel⟩, by decide⟩, zt_inT zh3 61 (by decide +kernel), zt_inT zh3 62 (by decide +kernel), rfl⟩
theorem m_X2_soonestRising : zMV kX2_soonestRising 2 1 := ⟨⟨zt_inT zh3 72 (by decide +kernel), zt_inT zh1 7 (by decide +kernel), ⟨by decide, by decide, by decide +kernel⟩, by decide⟩, zt_inT zh3 70 (by decide +kernel), zt_inT zh3 71 (by decide +kernel), rfl⟩
theorem m_X2_soonestRiseOf : zMV kX2_soonestRiseOf 2 2 := ⟨⟨zt_inT zh3 86 (by decide +kernel), zt_inT zh1 7 (by decide +kernel), ⟨by decide, by decide, by decide +kernel⟩, by decide⟩, zt_inT zh3 84 (by decide +kernel), zt_inT zh3 85 (by decide +kernel), rfl⟩
theorem m_X2_whenGoneRisingBehind : zMV kX2_whenGoneRisingBehind 2 2 := ⟨⟨zt_inT zh3 90 (by decide +kernel), zt_inT zh1 7 (by decide +kernel), ⟨by decide, by decide, by decide +kernel⟩, by decide⟩, zt_inT zh3 89 (by decide +kernel), zt_in 4 (by decide +kernel), rfl⟩
theorem m_X2_noteLeaving : zMV kX2_noteLeaving 2 1 := ⟨⟨zt_inT zh3 111 (by decide +kernel), zt_inT zh1 7 (by decide +kernel), ⟨by decide, by decide, by decide +kernel⟩, by decide⟩, zt_inT zh3 110 (by decide +kernel), zt_in 5 (by decide +kernel), rfl⟩
theorem m_X2_placeOf : zMS kX2_placeOf 2 := ⟨⟨zt_inT zh3 114 (by decide +kernel), zt_inT zh1 7 (by decide +kernel), ⟨by decide, by decide, by decide +kernel⟩, by decide⟩, zt_inT zh3 113 (by decide +kernel)⟩
theorem m_X2_isAtRest : zMV kX2_isAtRest 2 2 := ⟨⟨zt_inT zh3 119 (by decide +kernel), zt_inT zh1 7 (by decide +kernel), ⟨by decide, by decide, by decide +kernel⟩, by decide⟩, zt_inT zh3 118 (by decide +kernel), zt_in 6 (by decide +kernel), rfl⟩
theorem m_X2_balanceOf : zMV kX2_balanceOf 2 2 := ⟨⟨zt_inT zh3 104 (by decide +kernel), zt_inT zh1 7 (by decide +kernel), ⟨by decide, by decide, by decide +kernel⟩, by decide⟩, zt_inT zh3 102 (by decide +kernel), zt_inT zh3 103 (by decide +kernel), rfl⟩
theorem m_X2_setOfPair : zMS kX2_setOfPair 3 := ⟨⟨zt_inT zh3 107 (by decide +kernel), zt_inT zh1 7 (by decide +kernel), ⟨by decide, by decide, by decide +kernel⟩, by decide⟩, zt_inT zh3 106 (by decide +kernel)⟩
theorem m_X2_atRest : zMV kX2_atRest 2 1 := ⟨⟨zt_inT zh3 127 (by decide +kernel), zt_inT zh1 7 (by decide +kernel), ⟨by decide, by decide, by decide +kernel⟩, by decide⟩, zt_inT zh3 125 (by decide +kernel), zt_inT zh3 126 (by decide +kernel), rfl⟩
theorem m_X2_gainWithout : zMV kX2_gainWithout 2 1 := ⟨⟨zt_inT zh3 140 (by decide +kernel), zt_inT zh1 7 (by decide +kernel), ⟨by decide, by decide, by decide +kernel⟩, by decide⟩, zt_inT zh3 138 (by decide +kernel), zt_inT zh3 139 (by decide +kernel), rfl⟩
theorem m_X2_gainWithCray : zMV kX2_gainWithCray 2 1 := ⟨⟨zt_inT zh4 51 (by decide +kernel), zt_inT zh1 7 (by decide +kernel), ⟨by decide, by decide, by decide +kernel⟩, by decide⟩, zt_inT zh4 49 (by decide +kernel), zt_inT zh4 50 (by decide +kernel), rfl⟩
theorem m_X2_whenOthersGone : zMV kX2_whenOthersGone 2 1 := ⟨⟨zt_inT zh3 144 (by decide +kernel), zt_inT zh1 7 (by decide +kernel), ⟨by decide, by decide, by decide +kernel⟩, by decide⟩, zt_inT zh3 143 (by decide +kernel), zt_in 8 (by decide +kernel), rfl⟩
theorem m_X2_soonestCaller : zMV kX2_soonestCaller 2 1 := ⟨⟨zt_inT zh3 232 (by decide +kernel), zt_inT zh1 7 (by decide +kernel), ⟨by decide, by decide, by decide +kernel⟩, by decide⟩, zt_inT zh3 230 (by decide +kernel), zt_inT zh3 231 (by decide +kernel), rfl⟩
theorem m_X2_soonestAs : zMV kX2_soonestAs 2 3 := ⟨⟨zt_inT zh4 42 (by decide +kernel), zt_inT zh1 7 (by decide +kernel), ⟨by decide, by decide, by decide +kernel⟩, by decide⟩, zt_inT zh4 40 (by decide +kernel), zt_inT zh4 41 (by decide +kernel), rfl⟩
theorem m_X2_leastThirst : zMV kX2_leastThirst 2 1 := ⟨⟨zt_inT zh4 86 (by decide +kernel), zt_inT zh1 7 (by decide +kernel), ⟨by decide, by decide, by decide +kernel⟩, by decide⟩, zt_inT zh4 84 (by decide +kernel), zt_inT zh4 85 (by decide +kernel), rfl⟩
theorem m_X3_part : zMS kX3_part 3 := ⟨⟨zt_inT zh3 213 (by decide +kernel), zt_inT zh1 14 (by decide +kernel), ⟨by decide, by decide, by decide +kernel⟩, by decide⟩, zt_inT zh3 212 (by decide +kernel)⟩
theorem m_X3_commonDivisor : zMS kX3_commonDivisor 2 := ⟨⟨zt_inT zh3 216 (by decide +kernel), zt_inT zh1 14 (by decide +kernel), ⟨by decide, by decide, by decide +kernel⟩, by decide⟩, zt_inT zh3 215 (by decide +kernel)⟩
theorem m_X4_fitting : zMV kX4_fitting 3 3 := ⟨⟨zt_inT zh3 162 (by decide +kernel), zt_inT zh1 8 (by decide +kernel), ⟨by decide, by decide, by decide +kernel⟩, by decide⟩, zt_inT zh3 160 (by decide +kernel), zt_inT zh3 161 (by decide +kernel), rfl⟩
theorem m_X4_goesAsTold : zMV kX4_goesAsTold 3 2 := ⟨⟨zt_inT zh3 171 (by decide +kernel), zt_inT zh1 8 (by decide +kernel), ⟨by decide, by decide, by decide +kernel⟩, by decide⟩, zt_inT zh3 170 (by decide +kernel), zt_in 9 (by decide +kernel), rfl⟩
theorem m_X4_mostUnlike : zMV kX4_mostUnlike 3 2 := ⟨⟨zt_inT zh3 187 (by decide +kernel), zt_inT zh1 8 (by decide +kernel), ⟨by decide, by decide, by decide +kernel⟩, by decide⟩, zt_inT zh3 185 (by decide +kernel), zt_inT zh3 186 (by decide +kernel), rfl⟩
theorem m_X4_noteStates : zMV kX4_noteStates 3 2 := ⟨⟨zt_inT zh3 191 (by decide +kernel), zt_inT zh1 8 (by decide +kernel), ⟨by decide, by decide, by decide +kernel⟩, by decide⟩, zt_inT zh3 190 (by decide +kernel), zt_in 10 (by decide +kernel), rfl⟩
theorem m_X4_likelyServed : zMV kX4_likelyServed 3 4 := ⟨⟨zt_inT zh3 205 (by decide +kernel), zt_inT zh1 8 (by decide +kernel), ⟨by decide, by decide, by decide +kernel⟩, by decide⟩, zt_inT zh3 203 (by decide +kernel), zt_inT zh3 204 (by decide +kernel), rfl⟩
theorem m_X4_passAway : zMV kX4_passAway 3 3 := ⟨⟨zt_inT zh3 209 (by decide +kernel), zt_inT zh1 8 (by decide +kernel), ⟨by decide, by decide, by decide +kernel⟩, by decide⟩, zt_inT zh3 208 (by decide +kernel), zt_in 12 (by decide +kernel), rfl⟩
theorem m_X4_firstWrongThirst : zMV kX4_firstWrongThirst 3 2 := ⟨⟨zt_inT zh4 99 (by decide +kernel), zt_inT zh1 8 (by decide +kernel), ⟨by decide, by decide, by decide +kernel⟩, by decide⟩, zt_inT zh4 97 (by decide +kernel), zt_inT zh4 98 (by decide +kernel), rfl⟩
theorem m_X4_drawn : zMV kX4_drawn 3 3 := ⟨⟨zt_inT zh4 111 (by decide +kernel), zt_inT zh1 8 (by decide +kernel), ⟨by decide, by decide, by decide +kernel⟩, by decide⟩, zt_inT zh4 109 (by decide +kernel), zt_inT zh4 110 (by decide +kernel), rfl⟩
theorem m_X5_limit : zMS kX5_limit 2 := ⟨⟨zt_inT zh2 101 (by decide +kernel), zt_inT zh1 12 (by decide +kernel), ⟨by decide, by decide, by decide +kernel⟩, by decide⟩, zt_inT zh2 100 (by decide +kernel)⟩
theorem m_X5_patience : zMS kX5_patience 2 := ⟨⟨zt_inT zh2 105 (by decide +kernel), zt_inT zh1 12 (by decide +kernel), ⟨by decide, by decide, by decide +kernel⟩, by decide⟩, zt_inT zh2 104 (by decide +kernel)⟩
theorem m_X5_sip : zMS kX5_sip 1 := ⟨⟨zt_inT zh2 108 (by decide +kernel), zt_inT zh1 12 (by decide +kernel), ⟨by decide, by decide, by decide +kernel⟩, by decide⟩, zt_inT zh2 107 (by decide +kernel)⟩
theorem m_X5_enough : zMS kX5_enough 2 := ⟨⟨zt_inT zh2 112 (by decide +kernel), zt_inT zh1 12 (by decide +kernel), ⟨by decide, by decide, by decide +kernel⟩, by decide⟩, zt_inT zh2 111 (by decide +kernel)⟩
theorem m_X6_isFull : zMV kX6_isFull 4 0 := ⟨⟨zt_inT zh1 232 (by decide +kernel), zt_inT zh1 3 (by decide +kernel), ⟨by decide, by decide, by decide +kernel⟩, by decide⟩, zt_inT zh1 230 (by decide +kernel), zt_inT zh1 231 (by decide +kernel), rfl⟩
theorem m_X6_add : zMV kX6_add 4 1 := ⟨⟨zt_inT zh1 236 (by decide +kernel), zt_inT zh1 3 (by decide +kernel), ⟨by decide, by decide, by decide +kernel⟩, by decide⟩, zt_inT zh1 234 (by decide +kernel), zt_inT zh1 235 (by decide +kernel), rfl⟩
theorem m_X6_at : zMV kX6_at 4 1 := ⟨⟨zt_inT zh2 14 (by decide +kernel), zt_inT zh1 3 (by decide +kernel), ⟨by decide, by decide, by decide +kernel⟩, by decide⟩, zt_inT zh2 12 (by decide +kernel), zt_inT zh2 13 (by decide +kernel), rfl⟩
theorem m_X6_empty : zMV kX6_empty 4 0 := ⟨⟨zt_inT zh2 124 (by decide +kernel), zt_inT zh1 3 (by decide +kernel), ⟨by decide, by decide, by decide +kernel⟩, by decide⟩, zt_inT zh2 122 (by decide +kernel), zt_inT zh2 123 (by decide +kernel), rfl⟩
theorem m_X7_lookOn : zMV kX7_lookOn 5 1 := ⟨⟨zt_inT zh2 204 (by decide +kernel), zt_inT zh1 6 (by decide +kernel), ⟨by decide, by decide, by decide +kernel⟩, by decide⟩, zt_inT zh2 203 (by decide +kernel), zt_in 3 (by decide +kernel), rfl⟩
theorem m_X7_ofOne : zMV kX7_ofOne 5 3 := ⟨⟨zt_inT zh2 200 (by decide +kernel), zt_inT zh1 6 (by decide +kernel), ⟨by decide, by decide, by decide +kernel⟩, by decide⟩, zt_inT zh2 198 (by decide +kernel), zt_inT zh2 199 (by decide +kernel), rfl⟩
theorem m_X7_ofAll : zMV kX7_ofAll 5 2 := ⟨⟨zt_inT zh2 214 (by decide +kernel), zt_inT zh1 6 (by decide +kernel), ⟨by decide, by decide, by decide +kernel⟩, by decide⟩, zt_inT zh2 212 (by decide +kernel), zt_inT zh2 213 (by decide +kernel), rfl⟩
theorem m_X7_whenGone : zMV kX7_whenGone 5 1 := ⟨⟨zt_inT zh2 227 (by decide +kernel), zt_inT zh1 6 (by decide +kernel), ⟨by decide, by decide, by decide +kernel⟩, by decide⟩, zt_inT zh2 225 (by decide +kernel), zt_inT zh2 226 (by decide +kernel), rfl⟩
theorem m_X7_whenAllGone : zMV kX7_whenAllGone 5 0 := ⟨⟨zt_inT zh3 7 (by decide +kernel), zt_inT zh1 6 (by decide +kernel), ⟨by decide, by decide, by decide +kernel⟩, by decide⟩, zt_inT zh3 5 (by decide +kernel), zt_inT zh3 6 (by decide +kernel), rfl⟩
theorem m_X7_firstGone : zMV kX7_firstGone 5 0 := ⟨⟨zt_inT zh3 2 (by decide +kernel), zt_inT zh1 6 (by decide +kernel), ⟨by decide, by decide, by decide +kernel⟩, by decide⟩, zt_inT zh3 0 (by decide +kernel), zt_inT zh3 1 (by decide +kernel), rfl⟩
theorem m_X7_whenDrinking : zMV kX7_whenDrinking 5 1 := ⟨⟨zt_inT zh3 23 (by decide +kernel), zt_inT zh1 6 (by decide +kernel), ⟨by decide, by decide, by decide +kernel⟩, by decide⟩, zt_inT zh3 21 (by decide +kernel), zt_inT zh3 22 (by decide +kernel), rfl⟩
theorem m_X7_neverServed : zMV kX7_neverServed 5 0 := ⟨⟨zt_inT zh3 31 (by decide +kernel), zt_inT zh1 6 (by decide +kernel), ⟨by decide, by decide, by decide +kernel⟩, by decide⟩, zt_inT zh3 29 (by decide +kernel), zt_inT zh3 30 (by decide +kernel), rfl⟩
theorem m_X7_staying : zMV kX7_staying 5 0 := ⟨⟨zt_inT zh3 39 (by decide +kernel), zt_inT zh1 6 (by decide +kernel), ⟨by decide, by decide, by decide +kernel⟩, by decide⟩, zt_inT zh3 37 (by decide +kernel), zt_inT zh3 38 (by decide +kernel), rfl⟩
theorem m_X7_servedAs : zMV kX7_servedAs 5 1 := ⟨⟨zt_inT zh3 152 (by decide +kernel), zt_inT zh1 6 (by decide +kernel), ⟨by decide, by decide, by decide +kernel⟩, by decide⟩, zt_inT zh3 150 (by decide +kernel), zt_inT zh3 151 (by decide +kernel), rfl⟩
theorem m_X7_mostStanding : zMV kX7_mostStanding 5 2 := ⟨⟨zt_inT zh3 224 (by decide +kernel), zt_inT zh1 6 (by decide +kernel), ⟨by decide, by decide, by decide +kernel⟩, by decide⟩, zt_inT zh3 222 (by decide +kernel), zt_inT zh3 223 (by decide +kernel), rfl⟩
theorem m_X7_isStuck : zMV kX7_isStuck 5 0 := ⟨⟨zt_inT zh4 2 (by decide +kernel), zt_inT zh1 6 (by decide +kernel), ⟨by decide, by decide, by decide +kernel⟩, by decide⟩, zt_inT zh4 0 (by decide +kernel), zt_inT zh4 1 (by decide +kernel), rfl⟩
theorem m_X7_longestStanding : zMV kX7_longestStanding 5 2 := ⟨⟨zt_inT zh4 10 (by decide +kernel), zt_inT zh1 6 (by decide +kernel), ⟨by decide, by decide, by decide +kernel⟩, by decide⟩, zt_inT zh4 8 (by decide +kernel), zt_inT zh4 9 (by decide +kernel), rfl⟩
theorem m_X7_minutesStoodBy : zMV kX7_minutesStoodBy 5 2 := ⟨⟨zt_inT zh4 14 (by decide +kernel), zt_inT zh1 6 (by decide +kernel), ⟨by decide, by decide, by decide +kernel⟩, by decide⟩, zt_inT zh4 13 (by decide +kernel), zt_in 13 (by decide +kernel), rfl⟩
theorem m_X7_leaverAt : zMV kX7_leaverAt 5 1 := ⟨⟨zt_inT zh4 22 (by decide +kernel), zt_inT zh1 6 (by decide +kernel), ⟨by decide, by decide, by decide +kernel⟩, by decide⟩, zt_inT zh4 20 (by decide +kernel), zt_inT zh4 21 (by decide +kernel), rfl⟩
theorem m_X7_minutesStood : zMV kX7_minutesStood 5 1 := ⟨⟨zt_inT zh4 30 (by decide +kernel), zt_inT zh1 6 (by decide +kernel), ⟨by decide, by decide, by decide +kernel⟩, by decide⟩, zt_inT zh4 28 (by decide +kernel), zt_inT zh4 29 (by decide +kernel), rfl⟩
theorem m_X7_cupsIdle : zMV kX7_cupsIdle 5 1 := ⟨⟨zt_inT zh4 34 (by decide +kernel), zt_inT zh1 6 (by decide +kernel), ⟨by decide, by decide, by decide +kernel⟩, by decide⟩, zt_inT zh4 32 (by decide +kernel), zt_inT zh4 33 (by decide +kernel), rfl⟩
theorem m_X7_goneWithoutTea : zMV kX7_goneWithoutTea 5 1 := ⟨⟨zt_inT zh4 59 (by decide +kernel), zt_inT zh1 6 (by decide +kernel), ⟨by decide, by decide, by decide +kernel⟩, by decide⟩, zt_inT zh4 57 (by decide +kernel), zt_inT zh4 58 (by decide +kernel), rfl⟩
theorem m_X7_bothDrinking : zMV kX7_bothDrinking 5 3 := ⟨⟨zt_inT zh4 67 (by decide +kernel), zt_inT zh1 6 (by decide +kernel), ⟨by decide, by decide, by decide +kernel⟩, by decide⟩, zt_inT zh4 65 (by decide +kernel), zt_inT zh4 66 (by decide +kernel), rfl⟩
theorem m_X7_meanOfLeaving : zMV kX7_meanOfLeaving 5 1 := ⟨⟨zt_inT zh4 75 (by decide +kernel), zt_inT zh1 6 (by decide +kernel), ⟨by decide, by decide, by decide +kernel⟩, by decide⟩, zt_inT zh4 73 (by decide +kernel), zt_inT zh4 74 (by decide +kernel), rfl⟩
theorem m_X8_follow : zMS kX8_follow 3 := ⟨⟨zt_inT zh2 4 (by decide +kernel), zt_inT zh1 10 (by decide +kernel), ⟨by decide, by decide, by decide +kernel⟩, by decide⟩, zt_inT zh2 3 (by decide +kernel)⟩
theorem m_X8_placeOfWrongLetter : zMS kX8_placeOfWrongLetter 1 := ⟨⟨zt_inT zh2 7 (by decide +kernel), zt_inT zh1 10 (by decide +kernel), ⟨by decide, by decide, by decide +kernel⟩, by decide⟩, zt_inT zh2 6 (by decide +kernel)⟩
theorem m_X8_placeOfWrongLetterFrom : zMS kX8_placeOfWrongLetterFrom 2 := ⟨⟨zt_inT zh2 10 (by decide +kernel), zt_inT zh1 10 (by decide +kernel), ⟨by decide, by decide, by decide +kernel⟩, by decide⟩, zt_inT zh2 9 (by decide +kernel)⟩
theorem m_X8_lengthOf : zMS kX8_lengthOf 1 := ⟨⟨zt_inT zh2 17 (by decide +kernel), zt_inT zh1 10 (by decide +kernel), ⟨by decide, by decide, by decide +kernel⟩, by decide⟩, zt_inT zh2 16 (by decide +kernel)⟩
theorem m_X8_isDigit : zMS kX8_isDigit 1 := ⟨⟨zt_inT zh2 20 (by decide +kernel), zt_inT zh1 10 (by decide +kernel), ⟨by decide, by decide, by decide +kernel⟩, by decide⟩, zt_inT zh2 19 (by decide +kernel)⟩
theorem m_X8_digitAt : zMS kX8_digitAt 2 := ⟨⟨zt_inT zh2 33 (by decide +kernel), zt_inT zh1 10 (by decide +kernel), ⟨by decide, by decide, by decide +kernel⟩, by decide⟩, zt_inT zh2 32 (by decide +kernel)⟩
theorem m_X8_twoDigitsAt : zMS kX8_twoDigitsAt 2 := ⟨⟨zt_inT zh2 39 (by decide +kernel), zt_inT zh1 10 (by decide +kernel), ⟨by decide, by decide, by decide +kernel⟩, by decide⟩, zt_inT zh2 38 (by decide +kernel)⟩
theorem m_X8_comesTrue : zMS kX8_comesTrue 3 := ⟨⟨zt_inT zh2 30 (by decide +kernel), zt_inT zh1 10 (by decide +kernel), ⟨by decide, by decide, by decide +kernel⟩, by decide⟩, zt_inT zh2 29 (by decide +kernel)⟩
theorem m_X8_guestComes : zMS kX8_guestComes 3 := ⟨⟨zt_inT zh2 36 (by decide +kernel), zt_inT zh1 10 (by decide +kernel), ⟨by decide, by decide, by decide +kernel⟩, by decide⟩, zt_inT zh2 35 (by decide +kernel)⟩
theorem m_X9_feed : zMV kX9_feed 6 1 := ⟨⟨zt_inT zh1 224 (by decide +kernel), zt_inT zh1 1 (by decide +kernel), ⟨by decide, by decide, by decide +kernel⟩, by decide⟩, zt_inT zh1 222 (by decide +kernel), zt_inT zh1 223 (by decide +kernel), rfl⟩
theorem m_X9_house : zMV kX9_house 6 0 := ⟨⟨zt_inT zh2 1 (by decide +kernel), zt_inT zh1 1 (by decide +kernel), ⟨by decide, by decide, by decide +kernel⟩, by decide⟩, zt_inT zh1 239 (by decide +kernel), zt_inT zh2 0 (by decide +kernel), rfl⟩
theorem m_X9_guestOf : zMV kX9_guestOf 6 2 := ⟨⟨zt_inT zh2 133 (by decide +kernel), zt_inT zh1 1 (by decide +kernel), ⟨by decide, by decide, by decide +kernel⟩, by decide⟩, zt_inT zh2 131 (by decide +kernel), zt_inT zh2 132 (by decide +kernel), rfl⟩
theorem m_X9_guest : zMV kX9_guest 6 3 := ⟨⟨zt_inT zh2 143 (by decide +kernel), zt_inT zh1 1 (by decide +kernel), ⟨by decide, by decide, by decide +kernel⟩, by decide⟩, zt_inT zh2 141 (by decide +kernel), zt_inT zh2 142 (by decide +kernel), rfl⟩
theorem m_X9_rises : zMV kX9_rises 6 1 := ⟨⟨zt_inT zh2 149 (by decide +kernel), zt_inT zh1 1 (by decide +kernel), ⟨by decide, by decide, by decide +kernel⟩, by decide⟩, zt_inT zh2 147 (by decide +kernel), zt_inT zh2 148 (by decide +kernel), rfl⟩
theorem m_X9_slips : zMV kX9_slips 6 1 := ⟨⟨zt_inT zh2 162 (by decide +kernel), zt_inT zh1 1 (by decide +kernel), ⟨by decide, by decide, by decide +kernel⟩, by decide⟩, zt_inT zh2 160 (by decide +kernel), zt_inT zh2 161 (by decide +kernel), rfl⟩
theorem m_X9_cups : zMV kX9_cups 6 1 := ⟨⟨zt_inT zh2 167 (by decide +kernel), zt_inT zh1 1 (by decide +kernel), ⟨by decide, by decide, by decide +kernel⟩, by decide⟩, zt_inT zh2 165 (by decide +kernel), zt_inT zh2 166 (by decide +kernel), rfl⟩
theorem m_X9_rule : zMV kX9_rule 6 1 := ⟨⟨zt_inT zh2 172 (by decide +kernel), zt_inT zh1 1 (by decide +kernel), ⟨by decide, by decide, by decide +kernel⟩, by decide⟩, zt_inT zh2 170 (by decide +kernel), zt_inT zh2 171 (by decide +kernel), rfl⟩
theorem m_X9_minutes : zMV kX9_minutes 6 1 := ⟨⟨zt_inT zh2 176 (by decide +kernel), zt_inT zh1 1 (by decide +kernel), ⟨by decide, by decide, by decide +kernel⟩, by decide⟩, zt_inT zh2 174 (by decide +kernel), zt_inT zh2 175 (by decide +kernel), rfl⟩
theorem m_X9_back : zMV kX9_back 6 0 := ⟨⟨zt_inT zh2 182 (by decide +kernel), zt_inT zh1 1 (by decide +kernel), ⟨by decide, by decide, by decide +kernel⟩, by decide⟩, zt_inT zh2 180 (by decide +kernel), zt_inT zh2 181 (by decide +kernel), rfl⟩
theorem m_X9_behind : zMV kX9_behind 6 3 := ⟨⟨zt_inT zh2 190 (by decide +kernel), zt_inT zh1 1 (by decide +kernel), ⟨by decide, by decide, by decide +kernel⟩, by decide⟩, zt_inT zh2 188 (by decide +kernel), zt_inT zh2 189 (by decide +kernel), rfl⟩
theorem m_X9_all : zMV kX9_all 6 2 := ⟨⟨zt_inT zh2 210 (by decide +kernel), zt_inT zh1 1 (by decide +kernel), ⟨by decide, by decide, by decide +kernel⟩, by decide⟩, zt_inT zh2 208 (by decide +kernel), zt_inT zh2 209 (by decide +kernel), rfl⟩
theorem m_X9_leaves : zMV kX9_leaves 6 1 := ⟨⟨zt_inT zh2 223 (by decide +kernel), zt_inT zh1 1 (by decide +kernel), ⟨by decide, by decide, by decide +kernel⟩, by decide⟩, zt_inT zh2 221 (by decide +kernel), zt_inT zh2 222 (by decide +kernel), rfl⟩
theorem m_X9_gone : zMV kX9_gone 6 1 := ⟨⟨zt_inT zh2 238 (by decide +kernel), zt_inT zh1 1 (by decide +kernel), ⟨by decide, by decide, by decide +kernel⟩, by decide⟩, zt_inT zh2 236 (by decide +kernel), zt_inT zh2 237 (by decide +kernel), rfl⟩
theorem m_X9_tastes : zMV kX9_tastes 6 1 := ⟨⟨zt_inT zh3 19 (by decide +kernel), zt_inT zh1 1 (by decide +kernel), ⟨by decide, by decide, by decide +kernel⟩, by decide⟩, zt_inT zh3 17 (by decide +kernel), zt_inT zh3 18 (by decide +kernel), rfl⟩
theorem m_X9_thirsty : zMV kX9_thirsty 6 1 := ⟨⟨zt_inT zh3 27 (by decide +kernel), zt_inT zh1 1 (by decide +kernel), ⟨by decide, by decide, by decide +kernel⟩, by decide⟩, zt_inT zh3 25 (by decide +kernel), zt_inT zh3 26 (by decide +kernel), rfl⟩
theorem m_X9_cupsWanted : zMV kX9_cupsWanted 6 1 := ⟨⟨zt_inT zh3 43 (by decide +kernel), zt_inT zh1 1 (by decide +kernel), ⟨by decide, by decide, by decide +kernel⟩, by decide⟩, zt_inT zh3 41 (by decide +kernel), zt_inT zh3 42 (by decide +kernel), rfl⟩
theorem m_X9_bestRule : zMV kX9_bestRule 6 1 := ⟨⟨zt_inT zh3 55 (by decide +kernel), zt_inT zh1 1 (by decide +kernel), ⟨by decide, by decide, by decide +kernel⟩, by decide⟩, zt_inT zh3 53 (by decide +kernel), zt_inT zh3 54 (by decide +kernel), rfl⟩
theorem m_X9_rising : zMV kX9_rising 6 1 := ⟨⟨zt_inT zh3 68 (by decide +kernel), zt_inT zh1 1 (by decide +kernel), ⟨by decide, by decide, by decide +kernel⟩, by decide⟩, zt_inT zh3 66 (by decide +kernel), zt_inT zh3 67 (by decide +kernel), rfl⟩
theorem m_X9_bestRise : zMV kX9_bestRise 6 2 := ⟨⟨zt_inT zh3 82 (by decide +kernel), zt_inT zh1 1 (by decide +kernel), ⟨by decide, by decide, by decide +kernel⟩, by decide⟩, zt_inT zh3 80 (by decide +kernel), zt_inT zh3 81 (by decide +kernel), rfl⟩
theorem m_X9_two : zMV kX9_two 6 2 := ⟨⟨zt_inT zh3 96 (by decide +kernel), zt_inT zh1 1 (by decide +kernel), ⟨by decide, by decide, by decide +kernel⟩, by decide⟩, zt_inT zh3 94 (by decide +kernel), zt_inT zh3 95 (by decide +kernel), rfl⟩
theorem m_X9_rest : zMV kX9_rest 6 1 := ⟨⟨zt_inT zh3 123 (by decide +kernel), zt_inT zh1 1 (by decide +kernel), ⟨by decide, by decide, by decide +kernel⟩, by decide⟩, zt_inT zh3 121 (by decide +kernel), zt_inT zh3 122 (by decide +kernel), rfl⟩
theorem m_X9_garden : zMV kX9_garden 6 1 := ⟨⟨zt_inT zh3 131 (by decide +kernel), zt_inT zh1 1 (by decide +kernel), ⟨by decide, by decide, by decide +kernel⟩, by decide⟩, zt_inT zh3 129 (by decide +kernel), zt_inT zh3 130 (by decide +kernel), rfl⟩
theorem m_X9_served : zMV kX9_served 6 1 := ⟨⟨zt_inT zh3 148 (by decide +kernel), zt_inT zh1 1 (by decide +kernel), ⟨by decide, by decide, by decide +kernel⟩, by decide⟩, zt_inT zh3 146 (by decide +kernel), zt_inT zh3 147 (by decide +kernel), rfl⟩
theorem m_X9_who : zMV kX9_who 6 2 := ⟨⟨zt_inT zh3 158 (by decide +kernel), zt_inT zh1 1 (by decide +kernel), ⟨by decide, by decide, by decide +kernel⟩, by decide⟩, zt_inT zh3 156 (by decide +kernel), zt_inT zh3 157 (by decide +kernel), rfl⟩
theorem m_X9_look : zMV kX9_look 6 2 := ⟨⟨zt_inT zh3 183 (by decide +kernel), zt_inT zh1 1 (by decide +kernel), ⟨by decide, by decide, by decide +kernel⟩, by decide⟩, zt_inT zh3 181 (by decide +kernel), zt_inT zh3 182 (by decide +kernel), rfl⟩
theorem m_X9_away : zMV kX9_away 6 4 := ⟨⟨zt_inT zh3 196 (by decide +kernel), zt_inT zh1 1 (by decide +kernel), ⟨by decide, by decide, by decide +kernel⟩, by decide⟩, zt_inT zh3 194 (by decide +kernel), zt_inT zh3 195 (by decide +kernel), rfl⟩
theorem m_X9_crowd : zMV kX9_crowd 6 2 := ⟨⟨zt_inT zh3 220 (by decide +kernel), zt_inT zh1 1 (by decide +kernel), ⟨by decide, by decide, by decide +kernel⟩, by decide⟩, zt_inT zh3 218 (by decide +kernel), zt_inT zh3 219 (by decide +kernel), rfl⟩
theorem m_X9_caller : zMV kX9_caller 6 1 := ⟨⟨zt_inT zh3 228 (by decide +kernel), zt_inT zh1 1 (by decide +kernel), ⟨by decide, by decide, by decide +kernel⟩, by decide⟩, zt_inT zh3 226 (by decide +kernel), zt_inT zh3 227 (by decide +kernel), rfl⟩
theorem m_X9_stuck : zMV kX9_stuck 6 0 := ⟨⟨zt_inT zh3 238 (by decide +kernel), zt_inT zh1 1 (by decide +kernel), ⟨by decide, by decide, by decide +kernel⟩, by decide⟩, zt_inT zh3 236 (by decide +kernel), zt_inT zh3 237 (by decide +kernel), rfl⟩
theorem m_X9_longest : zMV kX9_longest 6 2 := ⟨⟨zt_inT zh4 6 (by decide +kernel), zt_inT zh1 1 (by decide +kernel), ⟨by decide, by decide, by decide +kernel⟩, by decide⟩, zt_inT zh4 4 (by decide +kernel), zt_inT zh4 5 (by decide +kernel), rfl⟩
theorem m_X9_leaver : zMV kX9_leaver 6 1 := ⟨⟨zt_inT zh4 18 (by decide +kernel), zt_inT zh1 1 (by decide +kernel), ⟨by decide, by decide, by decide +kernel⟩, by decide⟩, zt_inT zh4 16 (by decide +kernel), zt_inT zh4 17 (by decide +kernel), rfl⟩
theorem m_X9_waited : zMV kX9_waited 6 2 := ⟨⟨zt_inT zh4 26 (by decide +kernel), zt_inT zh1 1 (by decide +kernel), ⟨by decide, by decide, by decide +kernel⟩, by decide⟩, zt_inT zh4 24 (by decide +kernel), zt_inT zh4 25 (by decide +kernel), rfl⟩
theorem m_X9_bestOf : zMV kX9_bestOf 6 2 := ⟨⟨zt_inT zh4 38 (by decide +kernel), zt_inT zh1 1 (by decide +kernel), ⟨by decide, by decide, by decide +kernel⟩, by decide⟩, zt_inT zh4 36 (by decide +kernel), zt_inT zh4 37 (by decide +kernel), rfl⟩
theorem m_X9_kept : zMV kX9_kept 6 1 := ⟨⟨zt_inT zh4 47 (by decide +kernel), zt_inT zh1 1 (by decide +kernel), ⟨by decide, by decide, by decide +kernel⟩, by decide⟩, zt_inT zh4 45 (by decide +kernel), zt_inT zh4 46 (by decide +kernel), rfl⟩
theorem m_X9_dry : zMV kX9_dry 6 1 := ⟨⟨zt_inT zh4 55 (by decide +kernel), zt_inT zh1 1 (by decide +kernel), ⟨by decide, by decide, by decide +kernel⟩, by decide⟩, zt_inT zh4 53 (by decide +kernel), zt_inT zh4 54 (by decide +kernel), rfl⟩
theorem m_X9_company : zMV kX9_company 6 3 := ⟨⟨zt_inT zh4 63 (by decide +kernel), zt_inT zh1 1 (by decide +kernel), ⟨by decide, by decide, by decide +kernel⟩, by decide⟩, zt_inT zh4 61 (by decide +kernel), zt_inT zh4 62 (by decide +kernel), rfl⟩
theorem m_X9_mean : zMV kX9_mean 6 1 := ⟨⟨zt_inT zh4 71 (by decide +kernel), zt_inT zh1 1 (by decide +kernel), ⟨by decide, by decide, by decide +kernel⟩, by decide⟩, zt_inT zh4 69 (by decide +kernel), zt_inT zh4 70 (by decide +kernel), rfl⟩
theorem m_X9_hostess : zMV kX9_hostess 6 1 := ⟨⟨zt_inT zh4 82 (by decide +kernel), zt_inT zh1 1 (by decide +kernel), ⟨by decide, by decide, by decide +kernel⟩, by decide⟩, zt_inT zh4 80 (by decide +kernel), zt_inT zh4 81 (by decide +kernel), rfl⟩
theorem m_X9_row : zMV kX9_row 6 1 := ⟨⟨zt_inT zh4 91 (by decide +kernel), zt_inT zh1 1 (by decide +kernel), ⟨by decide, by decide, by decide +kernel⟩, by decide⟩, zt_inT zh4 89 (by decide +kernel), zt_inT zh4 90 (by decide +kernel), rfl⟩
theorem m_X9_judge : zMV kX9_judge 6 1 := ⟨⟨zt_inT zh4 95 (by decide +kernel), zt_inT zh1 1 (by decide +kernel), ⟨by decide, by decide, by decide +kernel⟩, by decide⟩, zt_inT zh4 93 (by decide +kernel), zt_inT zh4 94 (by decide +kernel), rfl⟩
theorem m_X9_clear : zMV kX9_clear 6 0 := ⟨⟨zt_inT zh4 103 (by decide +kernel), zt_inT zh1 1 (by decide +kernel), ⟨by decide, by decide, by decide +kernel⟩, by decide⟩, zt_inT zh4 101 (by decide +kernel), zt_inT zh4 102 (by decide +kernel), rfl⟩
theorem m_X9_lots : zMV kX9_lots 6 3 := ⟨⟨zt_inT zh4 107 (by decide +kernel), zt_inT zh1 1 (by decide +kernel), ⟨by decide, by decide, by decide +kernel⟩, by decide⟩, zt_inT zh4 105 (by decide +kernel), zt_inT zh4 106 (by decide +kernel), rfl⟩
theorem m_X9_image : zMV kX9_image 6 0 := ⟨⟨zt_inT zh4 120 (by decide +kernel), zt_inT zh1 1 (by decide +kernel), ⟨by decide, by decide, by decide +kernel⟩, by decide⟩, zt_inT zh4 118 (by decide +kernel), zt_inT zh4 119 (by decide +kernel), rfl⟩
theorem m_X9_restore : zMV kX9_restore 6 0 := ⟨⟨zt_inT zh4 124 (by decide +kernel), zt_inT zh1 1 (by decide +kernel), ⟨by decide, by decide, by decide +kernel⟩, by decide⟩, zt_inT zh4 122 (by decide +kernel), zt_inT zh4 123 (by decide +kernel), rfl⟩
theorem m_X9_count : zMV kX9_count 6 1 := ⟨⟨zt_inT zh4 128 (by decide +kernel), zt_inT zh1 1 (by decide +kernel), ⟨by decide, by decide, by decide +kernel⟩, by decide⟩, zt_inT zh4 126 (by decide +kernel), zt_inT zh4 127 (by decide +kernel), rfl⟩
theorem m_X9_refuse : zMV kX9_refuse 6 1 := ⟨⟨zt_inT zh1 228 (by decide +kernel), zt_inT zh1 1 (by decide +kernel), ⟨by decide, by decide, by decide +kernel⟩, by decide⟩, zt_inT zh1 227 (by decide +kernel), zt_in 0 (by decide +kernel), rfl⟩
theorem m_X9_refuseLoudly : zMV kX9_refuseLoudly 6 1 := ⟨⟨zt_inT zh3 135 (by decide +kernel), zt_inT zh1 1 (by decide +kernel), ⟨by decide, by decide, by decide +kernel⟩, by decide⟩, zt_inT zh3 134 (by decide +kernel), zt_in 7 (by decide +kernel), rfl⟩
theorem m_X9_refuseLong : zMV kX9_refuseLong 6 1 := ⟨⟨zt_inT zh3 200 (by decide +kernel), zt_inT zh1 1 (by decide +kernel), ⟨by decide, by decide, by decide +kernel⟩, by decide⟩, zt_inT zh3 199 (by decide +kernel), zt_in 11 (by decide +kernel), rfl⟩
theorem m_X9_isOther : zMS kX9_isOther 2 := ⟨⟨zt_inT zh2 46 (by decide +kernel), zt_inT zh1 1 (by decide +kernel), ⟨by decide, by decide, by decide +kernel⟩, by decide⟩, zt_inT zh2 45 (by decide +kernel)⟩
theorem m_X9_whyNotFar : zMS kX9_whyNotFar 1 := ⟨⟨zt_inT zh2 196 (by decide +kernel), zt_inT zh1 1 (by decide +kernel), ⟨by decide, by decide, by decide +kernel⟩, by decide⟩, zt_inT zh2 195 (by decide +kernel)⟩
theorem m_X9_whyNotFar_ : zMS kX9_whyNotFar_ 3 := ⟨⟨zt_inT zh2 193 (by decide +kernel), zt_inT zh1 1 (by decide +kernel), ⟨by decide, by decide, by decide +kernel⟩, by decide⟩, zt_inT zh2 192 (by decide +kernel)⟩
theorem m_X9_noneIfNever : zMS kX9_noneIfNever 1 := ⟨⟨zt_inT zh2 234 (by decide +kernel), zt_inT zh1 1 (by decide +kernel), ⟨by decide, by decide, by decide +kernel⟩, by decide⟩, zt_inT zh2 233 (by decide +kernel)⟩
theorem m_X10_no : zMV kX10_no 7 1 := ⟨⟨zt_inT zh4 236 (by decide +kernel), zt_inT zh1 9 (by decide +kernel), ⟨by decide, by decide, by decide +kernel⟩, by decide⟩, zt_inT zh4 235 (by decide +kernel), zt_in 14 (by decide +kernel), rfl⟩
theorem m_X10_lower : zMV kX10_lower 7 1 := ⟨⟨zt_inT zh6 28 (by decide +kernel), zt_inT zh1 9 (by decide +kernel), ⟨by decide, by decide, by decide +kernel⟩, by decide⟩, zt_inT zh6 27 (by decide +kernel), zt_in 55 (by decide +kernel), rfl⟩
theorem m_X10_lowest : zMV kX10_lowest 7 1 := ⟨⟨zt_inT zh6 64 (by decide +kernel), zt_inT zh1 9 (by decide +kernel), ⟨by decide, by decide, by decide +kernel⟩, by decide⟩, zt_inT zh6 63 (by decide +kernel), zt_in 59 (by decide +kernel), rfl⟩
theorem m_X10_isIn : zMS kX10_isIn 3 := ⟨⟨zt_inT zh5 15 (by decide +kernel), zt_inT zh1 9 (by decide +kernel), ⟨by decide, by decide, by decide +kernel⟩, by decide⟩, zt_inT zh5 14 (by decide +kernel)⟩
theorem m_X10_bound : zMS kX10_bound 3 := ⟨⟨zt_inT zh4 232 (by decide +kernel), zt_inT zh1 9 (by decide +kernel), ⟨by decide, by decide, by decide +kernel⟩, by decide⟩, zt_inT zh4 231 (by decide +kernel)⟩
theorem m_X10_has : zMS kX10_has 2 := ⟨⟨zt_inT zh5 189 (by decide +kernel), zt_inT zh1 9 (by decide +kernel), ⟨by decide, by decide, by decide +kernel⟩, by decide⟩, zt_inT zh5 188 (by decide +kernel)⟩
theorem m_X10_bits : zMS kX10_bits 1 := ⟨⟨zt_inT zh6 56 (by decide +kernel), zt_inT zh1 9 (by decide +kernel), ⟨by decide, by decide, by decide +kernel⟩, by decide⟩, zt_inT zh6 55 (by decide +kernel)⟩
theorem m_X10_isGuest : zMV kX10_isGuest 7 1 := ⟨⟨zt_inT zh5 107 (by decide +kernel), zt_inT zh1 9 (by decide +kernel), ⟨by decide, by decide, by decide +kernel⟩, by decide⟩, zt_inT zh5 106 (by decide +kernel), zt_in 40 (by decide +kernel), rfl⟩
theorem m_X10_feed : zMV kX10_feed 7 1 := ⟨⟨zt_inT zh4 229 (by decide +kernel), zt_inT zh1 9 (by decide +kernel), ⟨by decide, by decide, by decide +kernel⟩, by decide⟩, zt_inT zh4 227 (by decide +kernel), zt_inT zh4 228 (by decide +kernel), rfl⟩
theorem m_X10_next : zMV kX10_next 7 0 := ⟨⟨zt_inT zh5 8 (by decide +kernel), zt_inT zh1 9 (by decide +kernel), ⟨by decide, by decide, by decide +kernel⟩, by decide⟩, zt_inT zh5 7 (by decide +kernel), zt_in 16 (by decide +kernel), rfl⟩
theorem m_X10_readsDigits : zMV kX10_readsDigits 7 2 := ⟨⟨zt_inT zh5 12 (by decide +kernel), zt_inT zh1 9 (by decide +kernel), ⟨by decide, by decide, by decide +kernel⟩, by decide⟩, zt_inT zh5 11 (by decide +kernel), zt_in 17 (by decide +kernel), rfl⟩
theorem m_X10_statement : zMV kX10_statement 7 0 := ⟨⟨zt_inT zh5 4 (by decide +kernel), zt_inT zh1 9 (by decide +kernel), ⟨by decide, by decide, by decide +kernel⟩, by decide⟩, zt_inT zh5 3 (by decide +kernel), zt_in 15 (by decide +kernel), rfl⟩
theorem m_X10_comesGuest : zMV kX10_comesGuest 7 3 := ⟨⟨zt_inT zh5 35 (by decide +kernel), zt_inT zh1 9 (by decide +kernel), ⟨by decide, by decide, by decide +kernel⟩, by decide⟩, zt_inT zh5 34 (by decide +kernel), zt_in 22 (by decide +kernel), rfl⟩
theorem m_X10_comesCups : zMV kX10_comesCups 7 1 := ⟨⟨zt_inT zh5 43 (by decide +kernel), zt_inT zh1 9 (by decide +kernel), ⟨by decide, by decide, by decide +kernel⟩, by decide⟩, zt_inT zh5 42 (by decide +kernel), zt_in 24 (by decide +kernel), rfl⟩
theorem m_X10_comesMinutes : zMV kX10_comesMinutes 7 1 := ⟨⟨zt_inT zh5 51 (by decide +kernel), zt_inT zh1 9 (by decide +kernel), ⟨by decide, by decide, by decide +kernel⟩, by decide⟩, zt_inT zh5 50 (by decide +kernel), zt_in 26 (by decide +kernel), rfl⟩
theorem m_X10_comesTo : zMV kX10_comesTo 7 2 := ⟨⟨zt_inT zh5 103 (by decide +kernel), zt_inT zh1 9 (by decide +kernel), ⟨by decide, by decide, by decide +kernel⟩, by decide⟩, zt_inT zh5 102 (by decide +kernel), zt_in 39 (by decide +kernel), rfl⟩
theorem m_X10_comes : zMV kX10_comes 7 1 := ⟨⟨zt_inT zh5 31 (by decide +kernel), zt_inT zh1 9 (by decide +kernel), ⟨by decide, by decide, by decide +kernel⟩, by decide⟩, zt_inT zh5 30 (by decide +kernel), zt_in 21 (by decide +kernel), rfl⟩
theorem m_X10_house : zMV kX10_house 7 0 := ⟨⟨zt_inT zh5 0 (by decide +kernel), zt_inT zh1 9 (by decide +kernel), ⟨by decide, by decide, by decide +kernel⟩, by decide⟩, zt_inT zh4 238 (by decide +kernel), zt_inT zh4 239 (by decide +kernel), rfl⟩
theorem m_X10_passes : zMV kX10_passes 7 1 := ⟨⟨zt_inT zh5 23 (by decide +kernel), zt_inT zh1 9 (by decide +kernel), ⟨by decide, by decide, by decide +kernel⟩, by decide⟩, zt_inT zh5 22 (by decide +kernel), zt_in 19 (by decide +kernel), rfl⟩
theorem m_X10_passOne : zMV kX10_passOne 7 1 := ⟨⟨zt_inT zh5 27 (by decide +kernel), zt_inT zh1 9 (by decide +kernel), ⟨by decide, by decide, by decide +kernel⟩, by decide⟩, zt_inT zh5 26 (by decide +kernel), zt_in 20 (by decide +kernel), rfl⟩
theorem m_X10_passesAll : zMV kX10_passesAll 7 2 := ⟨⟨zt_inT zh5 19 (by decide +kernel), zt_inT zh1 9 (by decide +kernel), ⟨by decide, by decide, by decide +kernel⟩, by decide⟩, zt_inT zh5 18 (by decide +kernel), zt_in 18 (by decide +kernel), rfl⟩
theorem m_X10_thinks : zMV kX10_thinks 7 0 := ⟨⟨zt_inT zh5 162 (by decide +kernel), zt_inT zh1 9 (by decide +kernel), ⟨by decide, by decide, by decide +kernel⟩, by decide⟩, zt_inT zh5 161 (by decide +kernel), zt_in 42 (by decide +kernel), rfl⟩
theorem m_X10_forgets : zMV kX10_forgets 7 0 := ⟨⟨zt_inT zh5 166 (by decide +kernel), zt_inT zh1 9 (by decide +kernel), ⟨by decide, by decide, by decide +kernel⟩, by decide⟩, zt_inT zh5 165 (by decide +kernel), zt_in 43 (by decide +kernel), rfl⟩
theorem m_X10_keepsBack : zMV kX10_keepsBack 7 0 := ⟨⟨zt_inT zh5 135 (by decide +kernel), zt_inT zh1 9 (by decide +kernel), ⟨by decide, by decide, by decide +kernel⟩, by decide⟩, zt_inT zh5 134 (by decide +kernel), zt_in 41 (by decide +kernel), rfl⟩
theorem m_X10_back : zMV kX10_back 7 0 := ⟨⟨zt_inT zh5 111 (by decide +kernel), zt_inT zh1 9 (by decide +kernel), ⟨by decide, by decide, by decide +kernel⟩, by decide⟩, zt_inT zh5 109 (by decide +kernel), zt_inT zh5 110 (by decide +kernel), rfl⟩
theorem m_X10_image : zMV kX10_image 7 0 := ⟨⟨zt_inT zh5 115 (by decide +kernel), zt_inT zh1 9 (by decide +kernel), ⟨by decide, by decide, by decide +kernel⟩, by decide⟩, zt_inT zh5 113 (by decide +kernel), zt_inT zh5 114 (by decide +kernel), rfl⟩
theorem m_X10_restore : zMV kX10_restore 7 0 := ⟨⟨zt_inT zh5 119 (by decide +kernel), zt_inT zh1 9 (by decide +kernel), ⟨by decide, by decide, by decide +kernel⟩, by decide⟩, zt_inT zh5 117 (by decide +kernel), zt_inT zh5 118 (by decide +kernel), rfl⟩
theorem m_X10_adds : zMV kX10_adds 7 3 := ⟨⟨zt_inT zh5 39 (by decide +kernel), zt_inT zh1 9 (by decide +kernel), ⟨by decide, by decide, by decide +kernel⟩, by decide⟩, zt_inT zh5 38 (by decide +kernel), zt_in 23 (by decide +kernel), rfl⟩
theorem m_X10_limitOf : zMV kX10_limitOf 7 1 := ⟨⟨zt_inT zh5 67 (by decide +kernel), zt_inT zh1 9 (by decide +kernel), ⟨by decide, by decide, by decide +kernel⟩, by decide⟩, zt_inT zh5 66 (by decide +kernel), zt_in 30 (by decide +kernel), rfl⟩
theorem m_X10_patienceOf : zMV kX10_patienceOf 7 1 := ⟨⟨zt_inT zh5 75 (by decide +kernel), zt_inT zh1 9 (by decide +kernel), ⟨by decide, by decide, by decide +kernel⟩, by decide⟩, zt_inT zh5 74 (by decide +kernel), zt_in 32 (by decide +kernel), rfl⟩
theorem m_X10_sipOf : zMV kX10_sipOf 7 1 := ⟨⟨zt_inT zh5 83 (by decide +kernel), zt_inT zh1 9 (by decide +kernel), ⟨by decide, by decide, by decide +kernel⟩, by decide⟩, zt_inT zh5 82 (by decide +kernel), zt_in 34 (by decide +kernel), rfl⟩
theorem m_X10_enoughOf : zMV kX10_enoughOf 7 1 := ⟨⟨zt_inT zh5 87 (by decide +kernel), zt_inT zh1 9 (by decide +kernel), ⟨by decide, by decide, by decide +kernel⟩, by decide⟩, zt_inT zh5 86 (by decide +kernel), zt_in 35 (by decide +kernel), rfl⟩
theorem m_X10_manyIn : zMV kX10_manyIn 7 1 := ⟨⟨zt_inT zh5 47 (by decide +kernel), zt_inT zh1 9 (by decide +kernel), ⟨by decide, by decide, by decide +kernel⟩, by decide⟩, zt_inT zh5 46 (by decide +kernel), zt_in 25 (by decide +kernel), rfl⟩
theorem m_X10_standsUp : zMV kX10_standsUp 7 1 := ⟨⟨zt_inT zh5 71 (by decide +kernel), zt_inT zh1 9 (by decide +kernel), ⟨by decide, by decide, by decide +kernel⟩, by decide⟩, zt_inT zh5 70 (by decide +kernel), zt_in 31 (by decide +kernel), rfl⟩
theorem m_X10_drinksOn : zMV kX10_drinksOn 7 1 := ⟨⟨zt_inT zh5 79 (by decide +kernel), zt_inT zh1 9 (by decide +kernel), ⟨by decide, by decide, by decide +kernel⟩, by decide⟩, zt_inT zh5 78 (by decide +kernel), zt_in 33 (by decide +kernel), rfl⟩
theorem m_X10_goesOne : zMV kX10_goesOne 7 1 := ⟨⟨zt_inT zh5 63 (by decide +kernel), zt_inT zh1 9 (by decide +kernel), ⟨by decide, by decide, by decide +kernel⟩, by decide⟩, zt_inT zh5 62 (by decide +kernel), zt_in 29 (by decide +kernel), rfl⟩
theorem m_X10_isAhead : zMV kX10_isAhead 7 2 := ⟨⟨zt_inT zh5 99 (by decide +kernel), zt_inT zh1 9 (by decide +kernel), ⟨by decide, by decide, by decide +kernel⟩, by decide⟩, zt_inT zh5 98 (by decide +kernel), zt_in 38 (by decide +kernel), rfl⟩
theorem m_X10_nextServed : zMV kX10_nextServed 7 0 := ⟨⟨zt_inT zh5 95 (by decide +kernel), zt_inT zh1 9 (by decide +kernel), ⟨by decide, by decide, by decide +kernel⟩, by decide⟩, zt_inT zh5 94 (by decide +kernel), zt_in 37 (by decide +kernel), rfl⟩
theorem m_X10_pours : zMV kX10_pours 7 0 := ⟨⟨zt_inT zh5 91 (by decide +kernel), zt_inT zh1 9 (by decide +kernel), ⟨by decide, by decide, by decide +kernel⟩, by decide⟩, zt_inT zh5 90 (by decide +kernel), zt_in 36 (by decide +kernel), rfl⟩
theorem m_X10_goesMinute : zMV kX10_goesMinute 7 1 := ⟨⟨zt_inT zh5 59 (by decide +kernel), zt_inT zh1 9 (by decide +kernel), ⟨by decide, by decide, by decide +kernel⟩, by decide⟩, zt_inT zh5 58 (by decide +kernel), zt_in 28 (by decide +kernel), rfl⟩
theorem m_X10_goes : zMV kX10_goes 7 1 := ⟨⟨zt_inT zh5 55 (by decide +kernel), zt_inT zh1 9 (by decide +kernel), ⟨by decide, by decide, by decide +kernel⟩, by decide⟩, zt_inT zh5 54 (by decide +kernel), zt_in 27 (by decide +kernel), rfl⟩
theorem m_X10_guestOf : zMV kX10_guestOf 7 2 := ⟨⟨zt_inT zh5 123 (by decide +kernel), zt_inT zh1 9 (by decide +kernel), ⟨by decide, by decide, by decide +kernel⟩, by decide⟩, zt_inT zh5 121 (by decide +kernel), zt_inT zh5 122 (by decide +kernel), rfl⟩
theorem m_X10_guest : zMV kX10_guest 7 3 := ⟨⟨zt_inT zh5 127 (by decide +kernel), zt_inT zh1 9 (by decide +kernel), ⟨by decide, by decide, by decide +kernel⟩, by decide⟩, zt_inT zh5 125 (by decide +kernel), zt_inT zh5 126 (by decide +kernel), rfl⟩
theorem m_X10_rises : zMV kX10_rises 7 1 := ⟨⟨zt_inT zh5 131 (by decide +kernel), zt_inT zh1 9 (by decide +kernel), ⟨by decide, by decide, by decide +kernel⟩, by decide⟩, zt_inT zh5 129 (by decide +kernel), zt_inT zh5 130 (by decide +kernel), rfl⟩
theorem m_X10_slips : zMV kX10_slips 7 1 := ⟨⟨zt_inT zh5 139 (by decide +kernel), zt_inT zh1 9 (by decide +kernel), ⟨by decide, by decide, by decide +kernel⟩, by decide⟩, zt_inT zh5 137 (by decide +kernel), zt_inT zh5 138 (by decide +kernel), rfl⟩
theorem m_X10_cups : zMV kX10_cups 7 1 := ⟨⟨zt_inT zh5 143 (by decide +kernel), zt_inT zh1 9 (by decide +kernel), ⟨by decide, by decide, by decide +kernel⟩, by decide⟩, zt_inT zh5 141 (by decide +kernel), zt_inT zh5 142 (by decide +kernel), rfl⟩
theorem m_X10_rule : zMV kX10_rule 7 1 := ⟨⟨zt_inT zh5 147 (by decide +kernel), zt_inT zh1 9 (by decide +kernel), ⟨by decide, by decide, by decide +kernel⟩, by decide⟩, zt_inT zh5 145 (by decide +kernel), zt_inT zh5 146 (by decide +kernel), rfl⟩
theorem m_X10_minutes : zMV kX10_minutes 7 1 := ⟨⟨zt_inT zh5 151 (by decide +kernel), zt_inT zh1 9 (by decide +kernel), ⟨by decide, by decide, by decide +kernel⟩, by decide⟩, zt_inT zh5 149 (by decide +kernel), zt_inT zh5 150 (by decide +kernel), rfl⟩
theorem m_X10_notMinutes : zMS kX10_notMinutes 1 := ⟨⟨zt_inT zh5 158 (by decide +kernel), zt_inT zh1 9 (by decide +kernel), ⟨by decide, by decide, by decide +kernel⟩, by decide⟩, zt_inT zh5 157 (by decide +kernel)⟩
theorem m_X10_behind : zMV kX10_behind 7 3 := ⟨⟨zt_inT zh5 155 (by decide +kernel), zt_inT zh1 9 (by decide +kernel), ⟨by decide, by decide, by decide +kernel⟩, by decide⟩, zt_inT zh5 153 (by decide +kernel), zt_inT zh5 154 (by decide +kernel), rfl⟩
theorem m_X10_allThirst : zMV kX10_allThirst 7 0 := ⟨⟨zt_inT zh5 174 (by decide +kernel), zt_inT zh1 9 (by decide +kernel), ⟨by decide, by decide, by decide +kernel⟩, by decide⟩, zt_inT zh5 173 (by decide +kernel), zt_in 44 (by decide +kernel), rfl⟩
theorem m_X10_all : zMV kX10_all 7 2 := ⟨⟨zt_inT zh5 170 (by decide +kernel), zt_inT zh1 9 (by decide +kernel), ⟨by decide, by decide, by decide +kernel⟩, by decide⟩, zt_inT zh5 168 (by decide +kernel), zt_inT zh5 169 (by decide +kernel), rfl⟩
theorem m_X10_areGone : zMV kX10_areGone 7 1 := ⟨⟨zt_inT zh5 186 (by decide +kernel), zt_inT zh1 9 (by decide +kernel), ⟨by decide, by decide, by decide +kernel⟩, by decide⟩, zt_inT zh5 185 (by decide +kernel), zt_in 46 (by decide +kernel), rfl⟩
theorem m_X10_goneBy : zMV kX10_goneBy 7 1 := ⟨⟨zt_inT zh5 182 (by decide +kernel), zt_inT zh1 9 (by decide +kernel), ⟨by decide, by decide, by decide +kernel⟩, by decide⟩, zt_inT zh5 181 (by decide +kernel), zt_in 45 (by decide +kernel), rfl⟩
theorem m_X10_orNone : zMS kX10_orNone 1 := ⟨⟨zt_inT zh5 192 (by decide +kernel), zt_inT zh1 9 (by decide +kernel), ⟨by decide, by decide, by decide +kernel⟩, by decide⟩, zt_inT zh5 191 (by decide +kernel)⟩
theorem m_X10_everybody : zMV kX10_everybody 7 0 := ⟨⟨zt_inT zh5 200 (by decide +kernel), zt_inT zh1 9 (by decide +kernel), ⟨by decide, by decide, by decide +kernel⟩, by decide⟩, zt_inT zh5 199 (by decide +kernel), zt_in 47 (by decide +kernel), rfl⟩
theorem m_X10_leaves : zMV kX10_leaves 7 1 := ⟨⟨zt_inT zh5 178 (by decide +kernel), zt_inT zh1 9 (by decide +kernel), ⟨by decide, by decide, by decide +kernel⟩, by decide⟩, zt_inT zh5 176 (by decide +kernel), zt_inT zh5 177 (by decide +kernel), rfl⟩
theorem m_X10_gone : zMV kX10_gone 7 1 := ⟨⟨zt_inT zh5 196 (by decide +kernel), zt_inT zh1 9 (by decide +kernel), ⟨by decide, by decide, by decide +kernel⟩, by decide⟩, zt_inT zh5 194 (by decide +kernel), zt_inT zh5 195 (by decide +kernel), rfl⟩
theorem m_X10_tasteOf : zMV kX10_tasteOf 7 1 := ⟨⟨zt_inT zh5 208 (by decide +kernel), zt_inT zh1 9 (by decide +kernel), ⟨by decide, by decide, by decide +kernel⟩, by decide⟩, zt_inT zh5 207 (by decide +kernel), zt_in 48 (by decide +kernel), rfl⟩
theorem m_X10_tastes : zMV kX10_tastes 7 1 := ⟨⟨zt_inT zh5 204 (by decide +kernel), zt_inT zh1 9 (by decide +kernel), ⟨by decide, by decide, by decide +kernel⟩, by decide⟩, zt_inT zh5 202 (by decide +kernel), zt_inT zh5 203 (by decide +kernel), rfl⟩
theorem m_X10_thirsty : zMV kX10_thirsty 7 1 := ⟨⟨zt_inT zh5 212 (by decide +kernel), zt_inT zh1 9 (by decide +kernel), ⟨by decide, by decide, by decide +kernel⟩, by decide⟩, zt_inT zh5 210 (by decide +kernel), zt_inT zh5 211 (by decide +kernel), rfl⟩
theorem m_X10_cupsWanted : zMV kX10_cupsWanted 7 1 := ⟨⟨zt_inT zh5 216 (by decide +kernel), zt_inT zh1 9 (by decide +kernel), ⟨by decide, by decide, by decide +kernel⟩, by decide⟩, zt_inT zh5 214 (by decide +kernel), zt_inT zh5 215 (by decide +kernel), rfl⟩
theorem m_X10_pouredIn : zMV kX10_pouredIn 7 1 := ⟨⟨zt_inT zh5 224 (by decide +kernel), zt_inT zh1 9 (by decide +kernel), ⟨by decide, by decide, by decide +kernel⟩, by decide⟩, zt_inT zh5 223 (by decide +kernel), zt_in 49 (by decide +kernel), rfl⟩
theorem m_X10_bestRule : zMV kX10_bestRule 7 1 := ⟨⟨zt_inT zh5 220 (by decide +kernel), zt_inT zh1 9 (by decide +kernel), ⟨by decide, by decide, by decide +kernel⟩, by decide⟩, zt_inT zh5 218 (by decide +kernel), zt_inT zh5 219 (by decide +kernel), rfl⟩
theorem m_X10_whoSit : zMV kX10_whoSit 7 0 := ⟨⟨zt_inT zh5 232 (by decide +kernel), zt_inT zh1 9 (by decide +kernel), ⟨by decide, by decide, by decide +kernel⟩, by decide⟩, zt_inT zh5 231 (by decide +kernel), zt_in 50 (by decide +kernel), rfl⟩
theorem m_X10_goneRising : zMV kX10_goneRising 7 2 := ⟨⟨zt_inT zh5 236 (by decide +kernel), zt_inT zh1 9 (by decide +kernel), ⟨by decide, by decide, by decide +kernel⟩, by decide⟩, zt_inT zh5 235 (by decide +kernel), zt_in 51 (by decide +kernel), rfl⟩
theorem m_X10_rising : zMV kX10_rising 7 1 := ⟨⟨zt_inT zh5 228 (by decide +kernel), zt_inT zh1 9 (by decide +kernel), ⟨by decide, by decide, by decide +kernel⟩, by decide⟩, zt_inT zh5 226 (by decide +kernel), zt_inT zh5 227 (by decide +kernel), rfl⟩
theorem m_X10_goneRisingIn : zMV kX10_goneRisingIn 7 2 := ⟨⟨zt_inT zh6 4 (by decide +kernel), zt_inT zh1 9 (by decide +kernel), ⟨by decide, by decide, by decide +kernel⟩, by decide⟩, zt_inT zh6 3 (by decide +kernel), zt_in 52 (by decide +kernel), rfl⟩
theorem m_X10_bestRise : zMV kX10_bestRise 7 2 := ⟨⟨zt_inT zh6 0 (by decide +kernel), zt_inT zh1 9 (by decide +kernel), ⟨by decide, by decide, by decide +kernel⟩, by decide⟩, zt_inT zh5 238 (by decide +kernel), zt_inT zh5 239 (by decide +kernel), rfl⟩
theorem m_X10_isSooner : zMV kX10_isSooner 7 3 := ⟨⟨zt_inT zh6 12 (by decide +kernel), zt_inT zh1 9 (by decide +kernel), ⟨by decide, by decide, by decide +kernel⟩, by decide⟩, zt_inT zh6 11 (by decide +kernel), zt_in 53 (by decide +kernel), rfl⟩
theorem m_X10_two : zMV kX10_two 7 2 := ⟨⟨zt_inT zh6 8 (by decide +kernel), zt_inT zh1 9 (by decide +kernel), ⟨by decide, by decide, by decide +kernel⟩, by decide⟩, zt_inT zh6 6 (by decide +kernel), zt_inT zh6 7 (by decide +kernel), rfl⟩
theorem m_X10_isAtRest : zMV kX10_isAtRest 7 2 := ⟨⟨zt_inT zh6 20 (by decide +kernel), zt_inT zh1 9 (by decide +kernel), ⟨by decide, by decide, by decide +kernel⟩, by decide⟩, zt_inT zh6 19 (by decide +kernel), zt_in 54 (by decide +kernel), rfl⟩
theorem m_X10_rest : zMV kX10_rest 7 1 := ⟨⟨zt_inT zh6 16 (by decide +kernel), zt_inT zh1 9 (by decide +kernel), ⟨by decide, by decide, by decide +kernel⟩, by decide⟩, zt_inT zh6 14 (by decide +kernel), zt_inT zh6 15 (by decide +kernel), rfl⟩
theorem m_X10_garden : zMV kX10_garden 7 1 := ⟨⟨zt_inT zh6 24 (by decide +kernel), zt_inT zh1 9 (by decide +kernel), ⟨by decide, by decide, by decide +kernel⟩, by decide⟩, zt_inT zh6 22 (by decide +kernel), zt_inT zh6 23 (by decide +kernel), rfl⟩
theorem m_X10_served : zMV kX10_served 7 1 := ⟨⟨zt_inT zh6 33 (by decide +kernel), zt_inT zh1 9 (by decide +kernel), ⟨by decide, by decide, by decide +kernel⟩, by decide⟩, zt_inT zh6 31 (by decide +kernel), zt_inT zh6 32 (by decide +kernel), rfl⟩
theorem m_X10_isSo : zMV kX10_isSo 7 1 := ⟨⟨zt_inT zh6 45 (by decide +kernel), zt_inT zh1 9 (by decide +kernel), ⟨by decide, by decide, by decide +kernel⟩, by decide⟩, zt_inT zh6 44 (by decide +kernel), zt_in 57 (by decide +kernel), rfl⟩
theorem m_X10_bitsFor : zMV kX10_bitsFor 7 3 := ⟨⟨zt_inT zh6 41 (by decide +kernel), zt_inT zh1 9 (by decide +kernel), ⟨by decide, by decide, by decide +kernel⟩, by decide⟩, zt_inT zh6 40 (by decide +kernel), zt_in 56 (by decide +kernel), rfl⟩
theorem m_X10_thirstsFor : zMV kX10_thirstsFor 7 1 := ⟨⟨zt_inT zh6 49 (by decide +kernel), zt_inT zh1 9 (by decide +kernel), ⟨by decide, by decide, by decide +kernel⟩, by decide⟩, zt_inT zh6 48 (by decide +kernel), zt_in 58 (by decide +kernel), rfl⟩
theorem m_X10_who : zMV kX10_who 7 2 := ⟨⟨zt_inT zh6 37 (by decide +kernel), zt_inT zh1 9 (by decide +kernel), ⟨by decide, by decide, by decide +kernel⟩, by decide⟩, zt_inT zh6 35 (by decide +kernel), zt_inT zh6 36 (by decide +kernel), rfl⟩
theorem m_X10_look : zMV kX10_look 7 2 := ⟨⟨zt_inT zh6 53 (by decide +kernel), zt_inT zh1 9 (by decide +kernel), ⟨by decide, by decide, by decide +kernel⟩, by decide⟩, zt_inT zh6 51 (by decide +kernel), zt_inT zh6 52 (by decide +kernel), rfl⟩
theorem m_X10_divisor : zMS kX10_divisor 2 := ⟨⟨zt_inT zh6 68 (by decide +kernel), zt_inT zh1 9 (by decide +kernel), ⟨by decide, by decide, by decide +kernel⟩, by decide⟩, zt_inT zh6 67 (by decide +kernel)⟩
theorem m_X10_away : zMV kX10_away 7 4 := ⟨⟨zt_inT zh6 60 (by decide +kernel), zt_inT zh1 9 (by decide +kernel), ⟨by decide, by decide, by decide +kernel⟩, by decide⟩, zt_inT zh6 58 (by decide +kernel), zt_inT zh6 59 (by decide +kernel), rfl⟩
theorem m_X10_crowd : zMV kX10_crowd 7 2 := ⟨⟨zt_inT zh6 72 (by decide +kernel), zt_inT zh1 9 (by decide +kernel), ⟨by decide, by decide, by decide +kernel⟩, by decide⟩, zt_inT zh6 70 (by decide +kernel), zt_inT zh6 71 (by decide +kernel), rfl⟩
theorem m_X10_goneAs : zMV kX10_goneAs 7 1 := ⟨⟨zt_inT zh6 80 (by decide +kernel), zt_inT zh1 9 (by decide +kernel), ⟨by decide, by decide, by decide +kernel⟩, by decide⟩, zt_inT zh6 79 (by decide +kernel), zt_in 60 (by decide +kernel), rfl⟩
theorem m_X10_caller : zMV kX10_caller 7 1 := ⟨⟨zt_inT zh6 76 (by decide +kernel), zt_inT zh1 9 (by decide +kernel), ⟨by decide, by decide, by decide +kernel⟩, by decide⟩, zt_inT zh6 74 (by decide +kernel), zt_inT zh6 75 (by decide +kernel), rfl⟩
theorem m_X10_stuck : zMV kX10_stuck 7 0 := ⟨⟨zt_inT zh6 84 (by decide +kernel), zt_inT zh1 9 (by decide +kernel), ⟨by decide, by decide, by decide +kernel⟩, by decide⟩, zt_inT zh6 82 (by decide +kernel), zt_inT zh6 83 (by decide +kernel), rfl⟩
theorem m_X10_longest : zMV kX10_longest 7 2 := ⟨⟨zt_inT zh6 88 (by decide +kernel), zt_inT zh1 9 (by decide +kernel), ⟨by decide, by decide, by decide +kernel⟩, by decide⟩, zt_inT zh6 86 (by decide +kernel), zt_inT zh6 87 (by decide +kernel), rfl⟩
theorem m_X10_leaver : zMV kX10_leaver 7 1 := ⟨⟨zt_inT zh6 92 (by decide +kernel), zt_inT zh1 9 (by decide +kernel), ⟨by decide, by decide, by decide +kernel⟩, by decide⟩, zt_inT zh6 90 (by decide +kernel), zt_inT zh6 91 (by decide +kernel), rfl⟩
theorem m_X10_whoAre : zMV kX10_whoAre 7 1 := ⟨⟨zt_inT zh6 96 (by decide +kernel), zt_inT zh1 9 (by decide +kernel), ⟨by decide, by decide, by decide +kernel⟩, by decide⟩, zt_inT zh6 95 (by decide +kernel), zt_in 61 (by decide +kernel), rfl⟩
theorem m_X10_waited : zMV kX10_waited 7 2 := ⟨⟨zt_inT zh6 100 (by decide +kernel), zt_inT zh1 9 (by decide +kernel), ⟨by decide, by decide, by decide +kernel⟩, by decide⟩, zt_inT zh6 98 (by decide +kernel), zt_inT zh6 99 (by decide +kernel), rfl⟩
theorem m_X10_bestIn : zMV kX10_bestIn 7 3 := ⟨⟨zt_inT zh6 108 (by decide +kernel), zt_inT zh1 9 (by decide +kernel), ⟨by decide, by decide, by decide +kernel⟩, by decide⟩, zt_inT zh6 107 (by decide +kernel), zt_in 62 (by decide +kernel), rfl⟩
theorem m_X10_bestOf : zMV kX10_bestOf 7 2 := ⟨⟨zt_inT zh6 104 (by decide +kernel), zt_inT zh1 9 (by decide +kernel), ⟨by decide, by decide, by decide +kernel⟩, by decide⟩, zt_inT zh6 102 (by decide +kernel), zt_inT zh6 103 (by decide +kernel), rfl⟩
theorem m_X10_kept : zMV kX10_kept 7 1 := ⟨⟨zt_inT zh6 112 (by decide +kernel), zt_inT zh1 9 (by decide +kernel), ⟨by decide, by decide, by decide +kernel⟩, by decide⟩, zt_inT zh6 110 (by decide +kernel), zt_inT zh6 111 (by decide +kernel), rfl⟩
theorem m_X10_dry : zMV kX10_dry 7 1 := ⟨⟨zt_inT zh6 116 (by decide +kernel), zt_inT zh1 9 (by decide +kernel), ⟨by decide, by decide, by decide +kernel⟩, by decide⟩, zt_inT zh6 114 (by decide +kernel), zt_inT zh6 115 (by decide +kernel), rfl⟩
theorem m_X10_company : zMV kX10_company 7 3 := ⟨⟨zt_inT zh6 120 (by decide +kernel), zt_inT zh1 9 (by decide +kernel), ⟨by decide, by decide, by decide +kernel⟩, by decide⟩, zt_inT zh6 118 (by decide +kernel), zt_inT zh6 119 (by decide +kernel), rfl⟩
theorem m_X10_mean : zMV kX10_mean 7 1 := ⟨⟨zt_inT zh6 124 (by decide +kernel), zt_inT zh1 9 (by decide +kernel), ⟨by decide, by decide, by decide +kernel⟩, by decide⟩, zt_inT zh6 122 (by decide +kernel), zt_inT zh6 123 (by decide +kernel), rfl⟩
theorem m_X10_thirstIn : zMV kX10_thirstIn 7 1 := ⟨⟨zt_inT zh6 132 (by decide +kernel), zt_inT zh1 9 (by decide +kernel), ⟨by decide, by decide, by decide +kernel⟩, by decide⟩, zt_inT zh6 131 (by decide +kernel), zt_in 63 (by decide +kernel), rfl⟩
theorem m_X10_hostess : zMV kX10_hostess 7 1 := ⟨⟨zt_inT zh6 128 (by decide +kernel), zt_inT zh1 9 (by decide +kernel), ⟨by decide, by decide, by decide +kernel⟩, by decide⟩, zt_inT zh6 126 (by decide +kernel), zt_inT zh6 127 (by decide +kernel), rfl⟩
theorem m_X10_row : zMV kX10_row 7 1 := ⟨⟨zt_inT zh6 136 (by decide +kernel), zt_inT zh1 9 (by decide +kernel), ⟨by decide, by decide, by decide +kernel⟩, by decide⟩, zt_inT zh6 134 (by decide +kernel), zt_inT zh6 135 (by decide +kernel), rfl⟩
theorem m_X10_judge : zMV kX10_judge 7 1 := ⟨⟨zt_inT zh6 140 (by decide +kernel), zt_inT zh1 9 (by decide +kernel), ⟨by decide, by decide, by decide +kernel⟩, by decide⟩, zt_inT zh6 138 (by decide +kernel), zt_inT zh6 139 (by decide +kernel), rfl⟩
theorem m_X10_clear : zMV kX10_clear 7 0 := ⟨⟨zt_inT zh6 144 (by decide +kernel), zt_inT zh1 9 (by decide +kernel), ⟨by decide, by decide, by decide +kernel⟩, by decide⟩, zt_inT zh6 142 (by decide +kernel), zt_inT zh6 143 (by decide +kernel), rfl⟩
theorem m_X10_lots : zMV kX10_lots 7 3 := ⟨⟨zt_inT zh6 148 (by decide +kernel), zt_inT zh1 9 (by decide +kernel), ⟨by decide, by decide, by decide +kernel⟩, by decide⟩, zt_inT zh6 146 (by decide +kernel), zt_inT zh6 147 (by decide +kernel), rfl⟩
theorem m_X10_count : zMV kX10_count 7 1 := ⟨⟨zt_inT zh6 155 (by decide +kernel), zt_inT zh1 9 (by decide +kernel), ⟨by decide, by decide, by decide +kernel⟩, by decide⟩, zt_inT zh6 153 (by decide +kernel), zt_inT zh6 154 (by decide +kernel), rfl⟩
theorem m_J6_bitCount_0f7a4 : zMS kJ6_bitCount_0f7a4 1 := ⟨⟨zt_inT zh3 176 (by decide +kernel), zt_inT zh1 13 (by decide +kernel), ⟨by decide, by decide, by decide +kernel⟩, by decide⟩, zt_inT zh3 175 (by decide +kernel)⟩
theorem m_J9_max_7cf53 : zMS kJ9_max_7cf53 2 := ⟨⟨zt_inT zh1 102 (by decide +kernel), zt_inT zh1 4 (by decide +kernel), ⟨by decide, by decide, by decide +kernel⟩, by decide⟩, zt_inT zh1 101 (by decide +kernel)⟩
theorem m_J9_min_7cf53 : zMS kJ9_min_7cf53 2 := ⟨⟨zt_inT zh2 98 (by decide +kernel), zt_inT zh1 4 (by decide +kernel), ⟨by decide, by decide, by decide +kernel⟩, by decide⟩, zt_inT zh2 97 (by decide +kernel)⟩
