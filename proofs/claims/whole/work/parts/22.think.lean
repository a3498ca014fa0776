def zQm (a : Int) (v : Value) (M : zMem) (K A : zAft) : Option Value → zMem → Prop := fun r M' => r = some v ∧ ∃ S9 K9, zSv S9 ∧ zKe a K K9 ∧ M' = (zs (zs (zs M 14 S9) 13 K9) 3 A)
theorem X_tl {k : zMD} {d pc : Nat} {lo : List (Option Value)} {st : List Value} {v : Value} {M : zMem} {Q : Option Value → zMem → Prop} (h : zX k d pc lo (v :: st) M Q) : zX k d pc lo ((some v).toList ++ st) M Q := h
theorem X_tl0 {k : zMD} {d pc : Nat} {lo : List (Option Value)} {st : List Value} {M : zMem} {Q : Option Value → zMem → Prop} (h : zX k d pc lo st M Q) : zX k d pc lo ((none : Option Value).toList ++ st) M Q := h
theorem sSa_iff {A : zAft} {s : Int} : ∀ n : Nat, sSa A s n = true ↔ ∀ k : Nat, k < n → sBit s k = 1 → A 3 k = 3 := by
  intro n
  induction n with
  | zero => exact ⟨fun _ k h => absurd h (by omega), fun _ => rfl⟩
  | succ n ih =>
    simp only [sSa, Bool.and_eq_true, Bool.or_eq_true, Bool.not_eq_true', decide_eq_false_iff_not, decide_eq_true_eq, ih]
    refine ⟨fun h k hk hb => ?_, fun h => ⟨fun k hk => h k (by omega), ?_⟩⟩
    · by_cases e : k = n
      · subst e; rcases h.2 with h2 | h2
        · exact absurd hb h2
        · exact h2
      · exact h.1 k (by omega) hb
    · by_cases hb : sBit s n = 1
      · exact Or.inr (h n (by omega) hb)
      · exact Or.inl hb
theorem sAll_iff {A : zAft} {o : Int} : ∀ n : Nat, sAll A o n = true ↔ ∀ k : Nat, k < n → (k : Int) ≠ o → A 3 k = 3 := by
  intro n
  induction n with
  | zero => exact ⟨fun _ k h => absurd h (by omega), fun _ => rfl⟩
  | succ n ih =>
    simp only [sAll, Bool.and_eq_true, Bool.or_eq_true, decide_eq_true_eq, ih]
    refine ⟨fun h k hk hb => ?_, fun h => ⟨fun k hk => h k (by omega), ?_⟩⟩
    · by_cases e : k = n
      · subst e; rcases h.2 with h2 | h2
        · exact absurd h2 hb
        · exact h2
      · exact h.1 k (by omega) hb
    · by_cases hb : (n : Int) = o
      · exact Or.inl hb
      · exact Or.inr (h n (by omega) hb)
theorem sBit_one : ∀ x n : Nat, x < 6 → n < 6 → (sBit (zshl 1 (x : Int)) (n : Int) = 1 ↔ n = x) := by
  have h : ∀ x : Fin 6, ∀ n : Fin 6, (sBit (zshl 1 ((x.val : Nat) : Int)) ((n.val : Nat) : Int) = 1 ↔ n.val = x.val) := by decide +kernel
  exact fun x n hx hn => h ⟨x, hx⟩ ⟨n, hn⟩
theorem sBit_all : ∀ x n : Nat, x < 7 → n < x → sBit (zshl 1 (x : Int) - 1) (n : Int) = 1 := by
  have h : ∀ x : Fin 7, ∀ n : Fin 6, n.val < x.val → sBit (zshl 1 ((x.val : Nat) : Int) - 1) ((n.val : Nat) : Int) = 1 := by decide +kernel
  exact fun x n hx hn => h ⟨x, hx⟩ ⟨n, by omega⟩ hn
theorem sBit_but : ∀ y x n : Nat, y < 7 → x < 6 → n < y → (sBit (zand (zshl 1 (y : Int) - 1) (zxor (zshl 1 (x : Int)) (-1))) (n : Int) = 1 ↔ n ≠ x) := by
  have h : ∀ y : Fin 7, ∀ x : Fin 6, ∀ n : Fin 6, n.val < y.val → (sBit (zand (zshl 1 ((y.val : Nat) : Int) - 1) (zxor (zshl 1 ((x.val : Nat) : Int)) (-1))) ((n.val : Nat) : Int) = 1 ↔ n.val ≠ x.val) := by decide +kernel
  exact fun y x n hy hx hn => h ⟨y, hy⟩ ⟨x, hx⟩ ⟨n, by omega⟩ hn
/-- the minute behind which all of a set are gone -/
def sGB (A : zAft) (s : Int) : Nat := sFst (fun q => sSa (sRun A q) s (sG A)) 100
theorem sGB_le (A : zAft) (s : Int) : sGB A s ≤ 100 := sFst_le _ 100
theorem sGB_one {A : zAft} {x : Nat} (hx : x < sG A) (hG : sG A ≤ 6) : sGB A (zshl 1 (x : Int)) = sWh A x := by
  unfold sGB sWh
  refine congrArg (fun p => sFst p 100) (funext fun q => ?_)
  rw [Bool.eq_iff_iff, sSa_iff, decide_eq_true_eq]
  exact ⟨fun h => h x hx ((sBit_one x x (by omega) (by omega)).mpr rfl), fun h k hk hb => by rw [(sBit_one x k (by omega) (by omega)).mp hb]; exact h⟩
theorem sGB_all {A : zAft} (hG : sG A ≤ 6) (hg : (sG A : Int) = A 6 0) : sGB A (zshl 1 (A 6 0) - 1) = sTg A (-1) := by
  unfold sGB sTg
  rw [← hg]
  refine congrArg (fun p => sFst p 100) (funext fun q => ?_)
  rw [Bool.eq_iff_iff, sSa_iff, decide_eq_true_eq, sAll_iff]
  exact ⟨fun h k hk _ => h k hk (sBit_all _ k (by omega) hk), fun h k hk _ => h k hk (by omega)⟩
theorem sGB_but {A : zAft} {x : Nat} (hx : x < 6) (hG : sG A ≤ 6) (hg : (sG A : Int) = A 6 0) : sGB A (zand (zshl 1 (A 6 0) - 1) (zxor (zshl 1 (x : Int)) (-1))) = sTg A x := by
  unfold sGB sTg
  rw [← hg]
  refine congrArg (fun p => sFst p 100) (funext fun q => ?_)
  rw [Bool.eq_iff_iff, sSa_iff, decide_eq_true_eq, sAll_iff]
  exact ⟨fun h k hk e => h k hk ((sBit_but _ x k (by omega) hx hk).mpr (by omega)), fun h k hk hb => h k hk (by have := (sBit_but _ x k (by omega) hx hk).mp hb; omega)⟩
set_option maxRecDepth 100000 in
theorem c_X10_goneBy {M : zMem} {A S K : zAft} (hA : zOk 999 A) (hS : zSv S) {s : Int} : zCt kX10_goneBy 4 [.ref 38, .int (zii s)] ((zs (zs (zs M 14 S) 13 K) 3 A)) (zQm 84 (.int (zii (sGB A s : Nat))) M K A) := by
  have h6 := hA.1
  unfold zH at h6
  have hG := sG_le hA.1
  refine zMet (by decide) (Nat.le_of_ble_eq_true rfl) ?_
  show zX kX10_goneBy 4 0 [some (.ref 38), some (.int (zii s)), none, none] [] _ _
  refine Y_aload_0 i_X10_goneBy_0 ?_
  refine Y_callVq (k' := kX10_thinks) i_X10_goneBy_1 l_X10_207 m_X10_thinks c_X10_thinks rfl rfl rfl rfl rfl ?_
  intro r9 M9 hr9
  obtain ⟨rfl, K1, hk1, rfl⟩ := hr9
  refine X_tl0 ?_
  refine X_bipush i_X10_goneBy_4 (by decide +kernel) ?_
  refine Y_istore_2 i_X10_goneBy_6 rfl rfl ?_
  refine X_iconst i_X10_goneBy_7 ?_
  refine Y_istore_3 i_X10_goneBy_8 rfl rfl ?_
  have out : ∀ (f j : Nat) (B T : zAft), f < 100 → j ≤ 100 → zSv T → sGB A s = f → zX kX10_goneBy 4 9 [some (.ref 38), some (.int (zii s)), some (.int (zii (f : Nat))), some (.int (zii (j : Nat)))] [] (zs (zs (zs M 14 T) 13 K1) 3 B) (zQm 84 (.int (zii (sGB A s : Nat))) M K A) := by
    intro f j B T hf hj hT he
    refine Y_iload_3 i_X10_goneBy_9 ?_
    refine X_bipush i_X10_goneBy_10 (by decide +kernel) ?_
    refine X_icmp_gt i_X10_goneBy_12 (tgt := 53) rfl ⟨by omega, by omega⟩ ⟨by omega, by omega⟩ (fun h12 => ?_) (fun h12 => ?_)
    · refine Y_aload_0 i_X10_goneBy_53 ?_
      refine Y_callVq (k' := kX10_forgets) i_X10_goneBy_54 l_X10_210 m_X10_forgets (c_X10_forgets hk1.1) rfl rfl rfl rfl rfl ?_
      intro r9 M9 hr9
      obtain ⟨rfl, K2, hk2, rfl⟩ := hr9
      refine X_tl0 ?_
      refine Y_iload_2 i_X10_goneBy_57 ?_
      refine X_iret i_X10_goneBy_58 rfl ?_
      exact ⟨by rw [he], T, K2, hT, hk1.2.tr hk2, rfl⟩
    · refine Y_iload_2 i_X10_goneBy_15 ?_
      refine X_bipush i_X10_goneBy_16 (by decide +kernel) ?_
      refine Y_icmp_ne i_X10_goneBy_18 (tgt := 53) rfl ⟨by omega, by omega⟩ ⟨by omega, by omega⟩ (fun h18 => ?_) (fun h18 => by exfalso; omega)
      refine Y_aload_0 i_X10_goneBy_53 ?_
      refine Y_callVq (k' := kX10_forgets) i_X10_goneBy_54 l_X10_210 m_X10_forgets (c_X10_forgets hk1.1) rfl rfl rfl rfl rfl ?_
      intro r9 M9 hr9
      obtain ⟨rfl, K2, hk2, rfl⟩ := hr9
      refine X_tl0 ?_
      refine Y_iload_2 i_X10_goneBy_57 ?_
      refine X_iret i_X10_goneBy_58 rfl ?_
      exact ⟨by rw [he], T, K2, hT, hk1.2.tr hk2, rfl⟩
  have loop : ∀ (n : Nat) (j : Nat), j + n = 100 → (∀ q : Nat, q < j → sSa (sRun A q) s (sG A) = false) → zX kX10_goneBy 4 9 [some (.ref 38), some (.int (zii s)), some (.int (zii 100)), some (.int (zii j))] [] (zs (zs (zs M 14 (sRS A S j)) 13 K1) 3 (sRun A j)) (zQm 84 (.int (zii (sGB A s : Nat))) M K A) := by
    intro n
    induction n with
    | zero =>
      intro j  hg hno 
      obtain rfl : j = 100 := by omega
      refine Y_iload_3 i_X10_goneBy_9 ?_
      refine X_bipush i_X10_goneBy_10 (by decide +kernel) ?_
      refine X_icmp_gt i_X10_goneBy_12 (tgt := 53) rfl ⟨by omega, by omega⟩ ⟨by omega, by omega⟩ (fun h12 => ?_) (fun h12 => by exfalso; omega)
      refine Y_aload_0 i_X10_goneBy_53 ?_
      refine Y_callVq (k' := kX10_forgets) i_X10_goneBy_54 l_X10_210 m_X10_forgets (c_X10_forgets hk1.1) rfl rfl rfl rfl rfl ?_
      intro r9 M9 hr9
      obtain ⟨rfl, K2, hk2, rfl⟩ := hr9
      refine X_tl0 ?_
      refine Y_iload_2 i_X10_goneBy_57 ?_
      refine X_iret i_X10_goneBy_58 rfl ?_
      exact ⟨by unfold sGB; rw [sFst_none 100 hno]; rfl, _, K2, sRS_in A hS 100, hk1.2.tr hk2, rfl⟩
    | succ n ih =>
      intro j  hg hno 
      have hO := sRun_ok hA j
      have hO2 := sRun_G A j
      refine Y_iload_3 i_X10_goneBy_9 ?_
      refine X_bipush i_X10_goneBy_10 (by decide +kernel) ?_
      refine X_icmp_gt i_X10_goneBy_12 (tgt := 53) rfl ⟨by omega, by omega⟩ ⟨by omega, by omega⟩ (fun h12 => by exfalso; omega) (fun h12 => ?_)
      refine Y_iload_2 i_X10_goneBy_15 ?_
      refine X_bipush i_X10_goneBy_16 (by decide +kernel) ?_
      refine Y_icmp_ne i_X10_goneBy_18 (tgt := 53) rfl ⟨by omega, by omega⟩ ⟨by omega, by omega⟩ (fun h18 => by exfalso; omega) (fun h18 => ?_)
      refine Y_aload_0 i_X10_goneBy_21 ?_
      refine Y_iload_1 i_X10_goneBy_22 ?_
      refine Y_callV (k' := kX10_areGone) i_X10_goneBy_23 l_X10_219 m_X10_areGone (c_X10_areGone (zs_self _ _ _) hO) rfl rfl rfl rfl rfl ?_
      rw [hO2]
      refine Y_ifq_eq i_X10_goneBy_26 (tgt := 33) rfl  (fun h26 => ?_) (fun h26 => ?_)
      · refine X_bipush i_X10_goneBy_33 (by decide +kernel) ?_
        refine Y_istore_2 i_X10_goneBy_35 rfl rfl ?_
        refine Y_iload_2 i_X10_goneBy_36 ?_
        refine X_bipush i_X10_goneBy_37 (by decide +kernel) ?_
        refine Y_icmp_ne i_X10_goneBy_39 (tgt := 47) rfl ⟨by omega, by omega⟩ ⟨by omega, by omega⟩ (fun h39 => by exfalso; omega) (fun h39 => ?_)
        refine Y_aload_0 i_X10_goneBy_42 ?_
        refine X_iconst i_X10_goneBy_43 ?_
        refine Y_callVv (k' := kX10_goesMinute) i_X10_goneBy_44 l_X10_197 m_X10_goesMinute (c_X10_goesMinute hO (sRS_in A hS j) (by omega)) rfl rfl rfl rfl rfl ?_
        refine Y_iinc_3 i_X10_goneBy_47 rfl rfl ?_
        refine X_goto i_X10_goneBy_50 (tgt := 9) rfl ?_
        exact X_eq (ih (j + 1) (by omega) (fun q hq => by
          by_cases e : q = j
          · subst e; rw [Bool.not_eq_true] at h26; exact h26
          · exact hno q (by omega))) (by simp) rfl rfl
      · refine Y_iload_3 i_X10_goneBy_29 ?_
        refine X_goto i_X10_goneBy_30 (tgt := 35) rfl ?_
        refine Y_istore_2 i_X10_goneBy_35 rfl rfl ?_
        refine Y_iload_2 i_X10_goneBy_36 ?_
        refine X_bipush i_X10_goneBy_37 (by decide +kernel) ?_
        refine Y_icmp_ne i_X10_goneBy_39 (tgt := 47) rfl ⟨by omega, by omega⟩ ⟨by omega, by omega⟩ (fun h39 => ?_) (fun h39 => by exfalso; omega)
        refine Y_iinc_3 i_X10_goneBy_47 rfl rfl ?_
        refine X_goto i_X10_goneBy_50 (tgt := 9) rfl ?_
        exact X_eq (out j (j + 1) _ _ (by omega) (by omega) (sRS_in A hS j) (sFst_eq hno h26 100 (by omega))) (by simp) rfl rfl
  exact loop 100 0 (by omega) (fun q h => absurd h (by omega))
set_option maxRecDepth 100000 in
theorem c_X10_tasteOf {M : zMem} {A S K : zAft} (hA : zOk 999 A) (hS : zSv S) {x : Int} (x0 : 0 ≤ x) (x1 : x < 6) : zCt kX10_tasteOf 4 [.ref 38, .int (zii x)] ((zs (zs (zs M 14 S) 13 K) 3 A)) (zQm 84 (.int (zii (s9 (sDr A x)))) M K A) := by
  have h6 := hA.1
  unfold zH at h6
  have hG := sG_le hA.1
  refine zMet (by decide) (Nat.le_of_ble_eq_true rfl) ?_
  show zX kX10_tasteOf 4 0 [some (.ref 38), some (.int (zii x)), none, none] [] _ _
  refine Y_aload_0 i_X10_tasteOf_0 ?_
  refine Y_callVq (k' := kX10_thinks) i_X10_tasteOf_1 l_X10_207 m_X10_thinks c_X10_thinks rfl rfl rfl rfl rfl ?_
  intro r9 M9 hr9
  obtain ⟨rfl, K1, hk1, rfl⟩ := hr9
  refine X_tl0 ?_
  refine X_bipush i_X10_tasteOf_4 (by decide +kernel) ?_
  refine Y_istore_2 i_X10_tasteOf_6 rfl rfl ?_
  refine X_iconst i_X10_tasteOf_7 ?_
  refine Y_istore_3 i_X10_tasteOf_8 rfl rfl ?_
  have out : ∀ (f j : Nat) (B T : zAft), f < 100 → j ≤ 100 → zSv T → sDr A x = f → zX kX10_tasteOf 4 9 [some (.ref 38), some (.int (zii x)), some (.int (zii (f : Nat))), some (.int (zii (j : Nat)))] [] (zs (zs (zs M 14 T) 13 K1) 3 B) (zQm 84 (.int (zii (s9 (sDr A x)))) M K A) := by
    intro f j B T hf hj hT he
    refine Y_iload_3 i_X10_tasteOf_9 ?_
    refine X_bipush i_X10_tasteOf_10 (by decide +kernel) ?_
    refine X_icmp_gt i_X10_tasteOf_12 (tgt := 47) rfl ⟨by omega, by omega⟩ ⟨by omega, by omega⟩ (fun h12 => ?_) (fun h12 => ?_)
    · refine Y_aload_0 i_X10_tasteOf_47 ?_
      refine Y_callVq (k' := kX10_forgets) i_X10_tasteOf_48 l_X10_210 m_X10_forgets (c_X10_forgets hk1.1) rfl rfl rfl rfl rfl ?_
      intro r9 M9 hr9
      obtain ⟨rfl, K2, hk2, rfl⟩ := hr9
      refine X_tl0 ?_
      refine Y_iload_2 i_X10_tasteOf_51 ?_
      refine X_iret i_X10_tasteOf_52 rfl ?_
      exact ⟨by rw [he]; unfold s9; rw [if_neg (by omega)], T, K2, hT, hk1.2.tr hk2, rfl⟩
    · refine Y_iload_2 i_X10_tasteOf_15 ?_
      refine X_if_ge i_X10_tasteOf_16 (tgt := 47) rfl ⟨by omega, by omega⟩ (fun h16 => ?_) (fun h16 => by exfalso; omega)
      refine Y_aload_0 i_X10_tasteOf_47 ?_
      refine Y_callVq (k' := kX10_forgets) i_X10_tasteOf_48 l_X10_210 m_X10_forgets (c_X10_forgets hk1.1) rfl rfl rfl rfl rfl ?_
      intro r9 M9 hr9
      obtain ⟨rfl, K2, hk2, rfl⟩ := hr9
      refine X_tl0 ?_
      refine Y_iload_2 i_X10_tasteOf_51 ?_
      refine X_iret i_X10_tasteOf_52 rfl ?_
      exact ⟨by rw [he]; unfold s9; rw [if_neg (by omega)], T, K2, hT, hk1.2.tr hk2, rfl⟩
  have loop : ∀ (n : Nat) (j : Nat), j + n = 100 → (∀ q : Nat, q < j → decide (sRun A q 3 x = 2) = false) → zX kX10_tasteOf 4 9 [some (.ref 38), some (.int (zii x)), some (.int (zii (-9))), some (.int (zii j))] [] (zs (zs (zs M 14 (sRS A S j)) 13 K1) 3 (sRun A j)) (zQm 84 (.int (zii (s9 (sDr A x)))) M K A) := by
    intro n
    induction n with
    | zero =>
      intro j  hg hno 
      obtain rfl : j = 100 := by omega
      refine Y_iload_3 i_X10_tasteOf_9 ?_
      refine X_bipush i_X10_tasteOf_10 (by decide +kernel) ?_
      refine X_icmp_gt i_X10_tasteOf_12 (tgt := 47) rfl ⟨by omega, by omega⟩ ⟨by omega, by omega⟩ (fun h12 => ?_) (fun h12 => by exfalso; omega)
      refine Y_aload_0 i_X10_tasteOf_47 ?_
      refine Y_callVq (k' := kX10_forgets) i_X10_tasteOf_48 l_X10_210 m_X10_forgets (c_X10_forgets hk1.1) rfl rfl rfl rfl rfl ?_
      intro r9 M9 hr9
      obtain ⟨rfl, K2, hk2, rfl⟩ := hr9
      refine X_tl0 ?_
      refine Y_iload_2 i_X10_tasteOf_51 ?_
      refine X_iret i_X10_tasteOf_52 rfl ?_
      exact ⟨by unfold sDr; rw [sFst_none 100 hno]; rfl, _, K2, sRS_in A hS 100, hk1.2.tr hk2, rfl⟩
    | succ n ih =>
      intro j  hg hno 
      have hO := sRun_ok hA j
      have hgg := hO.2 x x0 x1
      unfold zG at hgg
      refine Y_iload_3 i_X10_tasteOf_9 ?_
      refine X_bipush i_X10_tasteOf_10 (by decide +kernel) ?_
      refine X_icmp_gt i_X10_tasteOf_12 (tgt := 47) rfl ⟨by omega, by omega⟩ ⟨by omega, by omega⟩ (fun h12 => by exfalso; omega) (fun h12 => ?_)
      refine Y_iload_2 i_X10_tasteOf_15 ?_
      refine X_if_ge i_X10_tasteOf_16 (tgt := 47) rfl ⟨by omega, by omega⟩ (fun h16 => by exfalso; omega) (fun h16 => ?_)
      refine Y_aload_0 i_X10_tasteOf_19 ?_
      refine X_getR i_X10_tasteOf_20 f_X10_22 rfl ?_
      refine Y_iload_1 i_X10_tasteOf_23 ?_
      refine Y_iald i_X10_tasteOf_24 rfl ⟨by omega, by omega⟩ rfl (zg0 _ _ _ _ _) ?_
      refine X_iconst i_X10_tasteOf_25 ?_
      refine Y_icmp_ne i_X10_tasteOf_26 (tgt := 33) rfl ⟨by omega, by omega⟩ ⟨by omega, by omega⟩ (fun h26 => ?_) (fun h26 => ?_)
      · refine X_bipush i_X10_tasteOf_33 (by decide +kernel) ?_
        refine Y_istore_2 i_X10_tasteOf_35 rfl rfl ?_
        refine Y_aload_0 i_X10_tasteOf_36 ?_
        refine X_iconst i_X10_tasteOf_37 ?_
        refine Y_callVv (k' := kX10_goesMinute) i_X10_tasteOf_38 l_X10_197 m_X10_goesMinute (c_X10_goesMinute hO (sRS_in A hS j) (by omega)) rfl rfl rfl rfl rfl ?_
        refine Y_iinc_3 i_X10_tasteOf_41 rfl rfl ?_
        refine X_goto i_X10_tasteOf_44 (tgt := 9) rfl ?_
        exact X_eq (ih (j + 1) (by omega) (fun q hq => by
          by_cases e : q = j
          · subst e; exact decide_eq_false h26
          · exact hno q (by omega))) (by simp) rfl rfl
      · refine Y_iload_3 i_X10_tasteOf_29 ?_
        refine X_goto i_X10_tasteOf_30 (tgt := 35) rfl ?_
        refine Y_istore_2 i_X10_tasteOf_35 rfl rfl ?_
        refine Y_aload_0 i_X10_tasteOf_36 ?_
        refine X_iconst i_X10_tasteOf_37 ?_
        refine Y_callVv (k' := kX10_goesMinute) i_X10_tasteOf_38 l_X10_197 m_X10_goesMinute (c_X10_goesMinute hO (sRS_in A hS j) (by omega)) rfl rfl rfl rfl rfl ?_
        refine Y_iinc_3 i_X10_tasteOf_41 rfl rfl ?_
        refine X_goto i_X10_tasteOf_44 (tgt := 9) rfl ?_
        exact X_eq (out j (j + 1) _ _ (by omega) (by omega) (sRS_in A hS (j + 1)) (sFst_eq hno (decide_eq_true h26) 100 (by omega))) (by simp) rfl rfl
  exact loop 100 0 (by omega) (fun q h => absurd h (by omega))
set_option maxRecDepth 100000 in
theorem c_X10_pouredIn {M : zMem} {A S K : zAft} (hA : zOk 999 A) (hS : zSv S) {t : Nat} (ht : t ≤ 1000) : zCt kX10_pouredIn 5 [.ref 38, .int (zii t)] ((zs (zs (zs M 14 S) 13 K) 3 A)) (zQm 84 (.int (zii (sRun A t 6 4 - A 6 4))) M K A) := by
  have h6 := hA.1
  unfold zH at h6
  have hG := sG_le hA.1
  have hO := sRun_ok hA t
  have hO2 := sRun_G A t
  refine zMet (by decide) (Nat.le_of_ble_eq_true rfl) ?_
  show zX kX10_pouredIn 5 0 [some (.ref 38), some (.int (zii t)), none, none] [] _ _
  refine Y_aload_0 i_X10_pouredIn_0 ?_
  refine Y_callVq (k' := kX10_thinks) i_X10_pouredIn_1 l_X10_207 m_X10_thinks c_X10_thinks rfl rfl rfl rfl rfl ?_
  intro r9 M9 hr9
  obtain ⟨rfl, K1, hk1, rfl⟩ := hr9
  refine X_tl0 ?_
  refine Y_aload_0 i_X10_pouredIn_4 ?_
  refine Y_getI i_X10_pouredIn_5 f_X10_161 rfl (zg0 _ _ _ _ _) ?_
  refine Y_istore_2 i_X10_pouredIn_8 rfl rfl ?_
  refine Y_aload_0 i_X10_pouredIn_9 ?_
  refine Y_iload_1 i_X10_pouredIn_10 ?_
  refine Y_callVv (k' := kX10_goes) i_X10_pouredIn_11 l_X10_107 m_X10_goes (c_X10_goes hA hS (by omega) (by omega)) rfl rfl rfl rfl rfl ?_
  refine Y_aload_0 i_X10_pouredIn_14 ?_
  refine Y_getI i_X10_pouredIn_15 f_X10_161 rfl (zg0 _ _ _ _ _) ?_
  refine Y_iload_2 i_X10_pouredIn_18 ?_
  refine X_isub i_X10_pouredIn_19 ?_
  refine Y_istore_3 i_X10_pouredIn_20 rfl rfl ?_
  refine Y_aload_0 i_X10_pouredIn_21 ?_
  refine Y_callVq (k' := kX10_forgets) i_X10_pouredIn_22 l_X10_210 m_X10_forgets (c_X10_forgets hk1.1) rfl rfl rfl rfl rfl ?_
  intro r9 M9 hr9
  obtain ⟨rfl, K2, hk2, rfl⟩ := hr9
  refine X_tl0 ?_
  refine Y_iload_3 i_X10_pouredIn_25 ?_
  refine X_iret i_X10_pouredIn_26 rfl ?_
  exact ⟨by rfl, _, K2, sRS_in A hS t, hk1.2.tr hk2, rfl⟩
set_option maxRecDepth 100000 in
theorem c_X10_thirstIn {M : zMem} {A S K : zAft} (hA : zOk 999 A) (hS : zSv S) {t : Nat} (ht : t ≤ 1000) : zCt kX10_thirstIn 5 [.ref 38, .int (zii t)] ((zs (zs (zs M 14 S) 13 K) 3 A)) (zQm 84 (.int (zii (sTh (sRun A t) (sG A)))) M K A) := by
  have h6 := hA.1
  unfold zH at h6
  have hG := sG_le hA.1
  have hO := sRun_ok hA t
  have hO2 := sRun_G A t
  refine zMet (by decide) (Nat.le_of_ble_eq_true rfl) ?_
  show zX kX10_thirstIn 5 0 [some (.ref 38), some (.int (zii t)), none] [] _ _
  refine Y_aload_0 i_X10_thirstIn_0 ?_
  refine Y_callVq (k' := kX10_thinks) i_X10_thirstIn_1 l_X10_207 m_X10_thinks c_X10_thinks rfl rfl rfl rfl rfl ?_
  intro r9 M9 hr9
  obtain ⟨rfl, K1, hk1, rfl⟩ := hr9
  refine X_tl0 ?_
  refine Y_aload_0 i_X10_thirstIn_4 ?_
  refine Y_iload_1 i_X10_thirstIn_5 ?_
  refine Y_callVv (k' := kX10_goes) i_X10_thirstIn_6 l_X10_107 m_X10_goes (c_X10_goes hA hS (by omega) (by omega)) rfl rfl rfl rfl rfl ?_
  refine Y_aload_0 i_X10_thirstIn_9 ?_
  refine Y_callV (k' := kX10_allThirst) i_X10_thirstIn_10 l_X10_213 m_X10_allThirst (c_X10_allThirst (zs_self _ _ _) hO) rfl rfl rfl rfl rfl ?_
  refine Y_istore_2 i_X10_thirstIn_13 rfl rfl ?_
  refine Y_aload_0 i_X10_thirstIn_14 ?_
  refine Y_callVq (k' := kX10_forgets) i_X10_thirstIn_15 l_X10_210 m_X10_forgets (c_X10_forgets hk1.1) rfl rfl rfl rfl rfl ?_
  intro r9 M9 hr9
  obtain ⟨rfl, K2, hk2, rfl⟩ := hr9
  refine X_tl0 ?_
  refine Y_iload_2 i_X10_thirstIn_18 ?_
  refine X_iret i_X10_thirstIn_19 rfl ?_
  exact ⟨by rw [hO2], _, K2, sRS_in A hS t, hk1.2.tr hk2, rfl⟩
set_option maxRecDepth 100000 in
theorem c_X10_goneRising {M : zMem} {A S K : zAft} (hA : zOk 999 A) (hS : zSv S) {s o : Int} (hs : ∀ g : Nat, g < sG A → sBit s g = 1 → A 3 g = 0) : zCt kX10_goneRising 5 [.ref 38, .int (zii s), .int (zii o)] ((zs (zs (zs M 14 S) 13 K) 3 A)) (zQm 42 (.int (zii (sGB (sRi A s (sG A)) o : Nat))) M K A) := by
  have h6 := hA.1
  unfold zH at h6
  have hG := sG_le hA.1
  refine zMet (by decide) (Nat.le_of_ble_eq_true rfl) ?_
  show zX kX10_goneRising 5 0 [some (.ref 38), some (.int (zii s)), some (.int (zii o)), none] [] _ _
  refine Y_aload_0 i_X10_goneRising_0 ?_
  refine X_iconst i_X10_goneRising_1 ?_
  refine X_iconst i_X10_goneRising_2 ?_
  refine Y_callVq (k' := kX10_passesAll) i_X10_goneRising_3 l_X10_137 m_X10_passesAll (c_X10_keepAll (w := 1) (by omega) (by omega)) rfl rfl rfl rfl rfl ?_
  intro r9 M9 hr9
  obtain ⟨rfl, K1, hk1, rfl⟩ := hr9
  refine X_tl0 ?_
  have he1 : zKe 42 K K1 := ⟨fun i hi => hk1.2.1 i (by omega), hk1.2.2⟩
  refine X_iconst i_X10_goneRising_6 ?_
  refine Y_istore_3 i_X10_goneRising_7 rfl rfl ?_
  have loop : ∀ (n : Nat) (g : Nat), g + n = sG A → zX kX10_goneRising 5 8 [some (.ref 38), some (.int (zii s)), some (.int (zii o)), some (.int (zii g))] [] (zs (zs (zs M 14 S) 13 K1) 3 (sRi A s g)) (zQm 42 (.int (zii (sGB (sRi A s (sG A)) o : Nat))) M K A) := by
    intro n
    induction n with
    | zero =>
      intro g  hg 
      obtain rfl : g = sG A := by omega
      have h60 : sRi A s (sG A) 6 0 = A 6 0 := by rw [sRi_6]
      refine Y_iload_3 i_X10_goneRising_8 ?_
      refine Y_aload_0 i_X10_goneRising_9 ?_
      refine Y_getI i_X10_goneRising_10 f_X10_65 rfl (zg0 _ _ _ _ _) ?_
      refine X_icmp_ge i_X10_goneRising_13 (tgt := 35) rfl ⟨by omega, by omega⟩ ⟨by omega, by omega⟩ (fun h13 => ?_) (fun h13 => by exfalso; omega)
      refine Y_aload_0 i_X10_goneRising_35 ?_
      refine Y_iload_2 i_X10_goneRising_36 ?_
      refine Y_callVq (k' := kX10_goneBy) i_X10_goneRising_37 l_X10_222 m_X10_goneBy (c_X10_goneBy (sRi_ok hA s _ (by omega)) hS) rfl rfl rfl rfl rfl ?_
      intro r9 M9 hr9
      obtain ⟨rfl, S2, K2, hS2, hk2, rfl⟩ := hr9
      refine X_tl ?_
      refine Y_istore_3 i_X10_goneRising_40 rfl rfl ?_
      refine Y_aload_0 i_X10_goneRising_41 ?_
      refine X_iconst i_X10_goneRising_42 ?_
      refine X_iconst i_X10_goneRising_43 ?_
      refine Y_callVq (k' := kX10_passesAll) i_X10_goneRising_44 l_X10_137 m_X10_passesAll (c_X10_getAll (w := 1) (by omega) (by omega) (hk2.kp hk1.1)) rfl rfl rfl rfl rfl ?_
      intro r9 M9 hr9
      obtain ⟨rfl, K3, hk3, rfl⟩ := hr9
      refine X_tl0 ?_
      refine Y_iload_3 i_X10_goneRising_47 ?_
      refine X_iret i_X10_goneRising_48 rfl ?_
      exact ⟨rfl, S2, K3, hS2, (he1.tr hk2.mo).tr (zKe.of hk3), rfl⟩
    | succ n ih =>
      intro g  hg 
      have h60 : sRi A s g 6 0 = A 6 0 := by rw [sRi_6]
      have h3g : sRi A s g 3 g = A 3 g := sRi_ge A s g 3 g (Int.le_refl _)
      refine Y_iload_3 i_X10_goneRising_8 ?_
      refine Y_aload_0 i_X10_goneRising_9 ?_
      refine Y_getI i_X10_goneRising_10 f_X10_65 rfl (zg0 _ _ _ _ _) ?_
      refine X_icmp_ge i_X10_goneRising_13 (tgt := 35) rfl ⟨by omega, by omega⟩ ⟨by omega, by omega⟩ (fun h13 => by exfalso; omega) (fun h13 => ?_)
      refine Y_iload_1 i_X10_goneRising_16 ?_
      refine Y_iload_3 i_X10_goneRising_17 ?_
      refine Y_callS (k' := kX10_has) i_X10_goneRising_18 l_X10_216 m_X10_has c_X10_has rfl rfl rfl rfl ?_
      refine Y_ifq_eq i_X10_goneRising_21 (tgt := 29) rfl  (fun h21 => ?_) (fun h21 => ?_)
      · refine Y_iinc_3 i_X10_goneRising_29 rfl rfl ?_
        refine X_goto i_X10_goneRising_32 (tgt := 8) rfl ?_
        exact X_eq (ih (g + 1) (by omega)) (by simp) rfl (by simp only [sRi]; rw [if_neg (fun z => h21 z.1)])
      · refine Y_aload_0 i_X10_goneRising_24 ?_
        refine Y_iload_3 i_X10_goneRising_25 ?_
        refine Y_callVv (k' := kX10_standsUp) i_X10_goneRising_26 l_X10_115 m_X10_standsUp (c_X10_standsUp (M := zs (zs M 14 S) 13 K1) (by omega) (by omega)) rfl rfl rfl rfl rfl ?_
        refine Y_iinc_3 i_X10_goneRising_29 rfl rfl ?_
        refine X_goto i_X10_goneRising_32 (tgt := 8) rfl ?_
        exact X_eq (ih (g + 1) (by omega)) (by simp) rfl (by simp only [sRi]; rw [if_pos ⟨h21, hs g (by omega) h21⟩])
  exact loop (sG A) 0 (by omega)
set_option maxRecDepth 100000 in
theorem c_X10_goneRisingIn {M : zMem} {A S K : zAft} (hA : zOk 999 A) (hS : zSv S) {x m : Int} (x0 : 0 ≤ x) (x1 : x < 6) (hm : zR m) : zCt kX10_goneRisingIn 4 [.ref 38, .int (zii x), .int (zii m)] ((zs (zs (zs M 14 S) 13 K) 3 A)) (zQm 42 (.int (zii (sWr A x m : Nat))) M K A) := by
  have h6 := hA.1
  unfold zH at h6
  have hG := sG_le hA.1
  have hm1 := hm.1
  have hm2 := hm.2
  refine zMet (by decide) (Nat.le_of_ble_eq_true rfl) ?_
  show zX kX10_goneRisingIn 4 0 [some (.ref 38), some (.int (zii x)), some (.int (zii m)), none, none] [] _ _
  refine Y_aload_0 i_X10_goneRisingIn_0 ?_
  refine X_iconst i_X10_goneRisingIn_1 ?_
  refine X_iconst i_X10_goneRisingIn_2 ?_
  refine Y_callVq (k' := kX10_passesAll) i_X10_goneRisingIn_3 l_X10_137 m_X10_passesAll (c_X10_keepAll (w := 1) (by omega) (by omega)) rfl rfl rfl rfl rfl ?_
  intro r9 M9 hr9
  obtain ⟨rfl, K1, hk1, rfl⟩ := hr9
  refine X_tl0 ?_
  have he1 : zKe 42 K K1 := ⟨fun i hi => hk1.2.1 i (by omega), hk1.2.2⟩
  refine X_bipush i_X10_goneRisingIn_6 (by decide +kernel) ?_
  refine Y_istore_3 i_X10_goneRisingIn_8 rfl rfl ?_
  refine X_iconst i_X10_goneRisingIn_9 ?_
  refine Y_istore_4 i_X10_goneRisingIn_10 rfl rfl ?_
  have out : ∀ (f j : Nat) (B T : zAft), f < 100 → j ≤ 100 → zSv T → sWr A x m = f → zX kX10_goneRisingIn 4 12 [some (.ref 38), some (.int (zii x)), some (.int (zii m)), some (.int (zii (f : Nat))), some (.int (zii (j : Nat)))] [] (zs (zs (zs M 14 T) 13 K1) 3 B) (zQm 42 (.int (zii (sWr A x m : Nat))) M K A) := by
    intro f j B T hf hj hT he
    refine Y_iload_4 i_X10_goneRisingIn_12 ?_
    refine X_bipush i_X10_goneRisingIn_14 (by decide +kernel) ?_
    refine X_icmp_gt i_X10_goneRisingIn_16 (tgt := 80) rfl ⟨by omega, by omega⟩ ⟨by omega, by omega⟩ (fun h16 => ?_) (fun h16 => ?_)
    · refine Y_aload_0 i_X10_goneRisingIn_80 ?_
      refine X_iconst i_X10_goneRisingIn_81 ?_
      refine X_iconst i_X10_goneRisingIn_82 ?_
      refine Y_callVq (k' := kX10_passesAll) i_X10_goneRisingIn_83 l_X10_137 m_X10_passesAll (c_X10_getAll (w := 1) (by omega) (by omega) hk1.1) rfl rfl rfl rfl rfl ?_
      intro r9 M9 hr9
      obtain ⟨rfl, K2, hk2, rfl⟩ := hr9
      refine X_tl0 ?_
      refine Y_iload_3 i_X10_goneRisingIn_86 ?_
      refine X_iret i_X10_goneRisingIn_87 rfl ?_
      exact ⟨by rw [he], T, K2, hT, he1.tr (zKe.of hk2), rfl⟩
    · refine Y_iload_3 i_X10_goneRisingIn_19 ?_
      refine X_bipush i_X10_goneRisingIn_20 (by decide +kernel) ?_
      refine Y_icmp_ne i_X10_goneRisingIn_22 (tgt := 80) rfl ⟨by omega, by omega⟩ ⟨by omega, by omega⟩ (fun h22 => ?_) (fun h22 => by exfalso; omega)
      refine Y_aload_0 i_X10_goneRisingIn_80 ?_
      refine X_iconst i_X10_goneRisingIn_81 ?_
      refine X_iconst i_X10_goneRisingIn_82 ?_
      refine Y_callVq (k' := kX10_passesAll) i_X10_goneRisingIn_83 l_X10_137 m_X10_passesAll (c_X10_getAll (w := 1) (by omega) (by omega) hk1.1) rfl rfl rfl rfl rfl ?_
      intro r9 M9 hr9
      obtain ⟨rfl, K2, hk2, rfl⟩ := hr9
      refine X_tl0 ?_
      refine Y_iload_3 i_X10_goneRisingIn_86 ?_
      refine X_iret i_X10_goneRisingIn_87 rfl ?_
      exact ⟨by rw [he], T, K2, hT, he1.tr (zKe.of hk2), rfl⟩
  have loop : ∀ (n : Nat) (j : Nat) (T : zAft), j + n = 100 → (∀ q : Nat, q < j → decide (sQr A x m q 3 x = 3) = false) → zSv T → zX kX10_goneRisingIn 4 12 [some (.ref 38), some (.int (zii x)), some (.int (zii m)), some (.int (zii 100)), some (.int (zii j))] [] (zs (zs (zs M 14 T) 13 K1) 3 (sQ A x m j)) (zQm 42 (.int (zii (sWr A x m : Nat))) M K A) := by
    intro n
    induction n with
    | zero =>
      intro j T hg hno hT
      obtain rfl : j = 100 := by omega
      refine Y_iload_4 i_X10_goneRisingIn_12 ?_
      refine X_bipush i_X10_goneRisingIn_14 (by decide +kernel) ?_
      refine X_icmp_gt i_X10_goneRisingIn_16 (tgt := 80) rfl ⟨by omega, by omega⟩ ⟨by omega, by omega⟩ (fun h16 => ?_) (fun h16 => by exfalso; omega)
      refine Y_aload_0 i_X10_goneRisingIn_80 ?_
      refine X_iconst i_X10_goneRisingIn_81 ?_
      refine X_iconst i_X10_goneRisingIn_82 ?_
      refine Y_callVq (k' := kX10_passesAll) i_X10_goneRisingIn_83 l_X10_137 m_X10_passesAll (c_X10_getAll (w := 1) (by omega) (by omega) hk1.1) rfl rfl rfl rfl rfl ?_
      intro r9 M9 hr9
      obtain ⟨rfl, K2, hk2, rfl⟩ := hr9
      refine X_tl0 ?_
      refine Y_iload_3 i_X10_goneRisingIn_86 ?_
      refine X_iret i_X10_goneRisingIn_87 rfl ?_
      exact ⟨by unfold sWr; rw [sFst_none 100 hno]; rfl, T, K2, hT, he1.tr (zKe.of hk2), rfl⟩
    | succ n ih =>
      intro j T hg hno hT
      have hO := sQ_ok hA (g := x) (m := m) x0 x1 j
      have hgg := hO.1.2 x x0 x1
      unfold zG at hgg
      have hgr := hO.2.2 x x0 x1
      unfold zG at hgr
      refine Y_iload_4 i_X10_goneRisingIn_12 ?_
      refine X_bipush i_X10_goneRisingIn_14 (by decide +kernel) ?_
      refine X_icmp_gt i_X10_goneRisingIn_16 (tgt := 80) rfl ⟨by omega, by omega⟩ ⟨by omega, by omega⟩ (fun h16 => by exfalso; omega) (fun h16 => ?_)
      refine Y_iload_3 i_X10_goneRisingIn_19 ?_
      refine X_bipush i_X10_goneRisingIn_20 (by decide +kernel) ?_
      refine Y_icmp_ne i_X10_goneRisingIn_22 (tgt := 80) rfl ⟨by omega, by omega⟩ ⟨by omega, by omega⟩ (fun h22 => by exfalso; omega) (fun h22 => ?_)
      refine Y_iload_4 i_X10_goneRisingIn_25 ?_
      refine Y_iload_2 i_X10_goneRisingIn_27 ?_
      refine Y_icmp_ne i_X10_goneRisingIn_28 (tgt := 45) rfl ⟨by omega, by omega⟩ ⟨by omega, by omega⟩ (fun h28 => ?_) (fun h28 => ?_)
      · have hq : sQr A x m j = sQ A x m j := by unfold sQr; rw [if_neg (by omega)]
        rw [← hq]
        refine Y_aload_0 i_X10_goneRisingIn_45 ?_
        refine X_getR i_X10_goneRisingIn_46 f_X10_22 rfl ?_
        refine Y_iload_1 i_X10_goneRisingIn_49 ?_
        refine Y_iald i_X10_goneRisingIn_50 rfl ⟨by omega, by omega⟩ rfl (zg0 _ _ _ _ _) ?_
        refine X_iconst i_X10_goneRisingIn_51 ?_
        refine Y_icmp_ne i_X10_goneRisingIn_52 (tgt := 60) rfl ⟨by omega, by omega⟩ ⟨by omega, by omega⟩ (fun h52 => ?_) (fun h52 => ?_)
        · refine X_bipush i_X10_goneRisingIn_60 (by decide +kernel) ?_
          refine Y_istore_3 i_X10_goneRisingIn_62 rfl rfl ?_
          refine Y_iload_3 i_X10_goneRisingIn_63 ?_
          refine X_bipush i_X10_goneRisingIn_64 (by decide +kernel) ?_
          refine Y_icmp_ne i_X10_goneRisingIn_66 (tgt := 74) rfl ⟨by omega, by omega⟩ ⟨by omega, by omega⟩ (fun h66 => by exfalso; omega) (fun h66 => ?_)
          refine Y_aload_0 i_X10_goneRisingIn_69 ?_
          refine X_iconst i_X10_goneRisingIn_70 ?_
          refine Y_callVv (k' := kX10_goesMinute) i_X10_goneRisingIn_71 l_X10_197 m_X10_goesMinute (c_X10_goesMinute hO.2 hT (by omega)) rfl rfl rfl rfl rfl ?_
          refine Y_iinc_4 i_X10_goneRisingIn_74 rfl rfl ?_
          refine X_goto i_X10_goneRisingIn_77 (tgt := 12) rfl ?_
          exact X_eq (ih (j + 1) _ (by omega) (fun q hq => by
            by_cases e : q = j
            · subst e; exact decide_eq_false h52
            · exact hno q (by omega)) (sUn_in _ _ _ hT)) (by simp) rfl rfl
        · refine Y_iload_4 i_X10_goneRisingIn_55 ?_
          refine X_goto i_X10_goneRisingIn_57 (tgt := 62) rfl ?_
          refine Y_istore_3 i_X10_goneRisingIn_62 rfl rfl ?_
          refine Y_iload_3 i_X10_goneRisingIn_63 ?_
          refine X_bipush i_X10_goneRisingIn_64 (by decide +kernel) ?_
          refine Y_icmp_ne i_X10_goneRisingIn_66 (tgt := 74) rfl ⟨by omega, by omega⟩ ⟨by omega, by omega⟩ (fun h66 => ?_) (fun h66 => by exfalso; omega)
          refine Y_iinc_4 i_X10_goneRisingIn_74 rfl rfl ?_
          refine X_goto i_X10_goneRisingIn_77 (tgt := 12) rfl ?_
          exact X_eq (out j (j + 1) _ _ (by omega) (by omega) hT (sFst_eq hno (decide_eq_true h52) 100 (by omega))) (by simp) rfl rfl
      · refine Y_aload_0 i_X10_goneRisingIn_31 ?_
        refine X_getR i_X10_goneRisingIn_32 f_X10_22 rfl ?_
        refine Y_iload_1 i_X10_goneRisingIn_35 ?_
        refine Y_iald i_X10_goneRisingIn_36 rfl ⟨by omega, by omega⟩ rfl (zg0 _ _ _ _ _) ?_
        refine Y_if_ne i_X10_goneRisingIn_37 (tgt := 45) rfl ⟨by omega, by omega⟩ (fun h37 => ?_) (fun h37 => ?_)
        · have hq : sQr A x m j = sQ A x m j := by unfold sQr; rw [if_neg (by omega)]
          rw [← hq]
          refine Y_aload_0 i_X10_goneRisingIn_45 ?_
          refine X_getR i_X10_goneRisingIn_46 f_X10_22 rfl ?_
          refine Y_iload_1 i_X10_goneRisingIn_49 ?_
          refine Y_iald i_X10_goneRisingIn_50 rfl ⟨by omega, by omega⟩ rfl (zg0 _ _ _ _ _) ?_
          refine X_iconst i_X10_goneRisingIn_51 ?_
          refine Y_icmp_ne i_X10_goneRisingIn_52 (tgt := 60) rfl ⟨by omega, by omega⟩ ⟨by omega, by omega⟩ (fun h52 => ?_) (fun h52 => ?_)
          · refine X_bipush i_X10_goneRisingIn_60 (by decide +kernel) ?_
            refine Y_istore_3 i_X10_goneRisingIn_62 rfl rfl ?_
            refine Y_iload_3 i_X10_goneRisingIn_63 ?_
            refine X_bipush i_X10_goneRisingIn_64 (by decide +kernel) ?_
            refine Y_icmp_ne i_X10_goneRisingIn_66 (tgt := 74) rfl ⟨by omega, by omega⟩ ⟨by omega, by omega⟩ (fun h66 => by exfalso; omega) (fun h66 => ?_)
            refine Y_aload_0 i_X10_goneRisingIn_69 ?_
            refine X_iconst i_X10_goneRisingIn_70 ?_
            refine Y_callVv (k' := kX10_goesMinute) i_X10_goneRisingIn_71 l_X10_197 m_X10_goesMinute (c_X10_goesMinute hO.2 hT (by omega)) rfl rfl rfl rfl rfl ?_
            refine Y_iinc_4 i_X10_goneRisingIn_74 rfl rfl ?_
            refine X_goto i_X10_goneRisingIn_77 (tgt := 12) rfl ?_
            exact X_eq (ih (j + 1) _ (by omega) (fun q hq => by
              by_cases e : q = j
              · subst e; exact decide_eq_false h52
              · exact hno q (by omega)) (sUn_in _ _ _ hT)) (by simp) rfl rfl
          · refine Y_iload_4 i_X10_goneRisingIn_55 ?_
            refine X_goto i_X10_goneRisingIn_57 (tgt := 62) rfl ?_
            refine Y_istore_3 i_X10_goneRisingIn_62 rfl rfl ?_
            refine Y_iload_3 i_X10_goneRisingIn_63 ?_
            refine X_bipush i_X10_goneRisingIn_64 (by decide +kernel) ?_
            refine Y_icmp_ne i_X10_goneRisingIn_66 (tgt := 74) rfl ⟨by omega, by omega⟩ ⟨by omega, by omega⟩ (fun h66 => ?_) (fun h66 => by exfalso; omega)
            refine Y_iinc_4 i_X10_goneRisingIn_74 rfl rfl ?_
            refine X_goto i_X10_goneRisingIn_77 (tgt := 12) rfl ?_
            exact X_eq (out j (j + 1) _ _ (by omega) (by omega) hT (sFst_eq hno (decide_eq_true h52) 100 (by omega))) (by simp) rfl rfl
        · refine Y_aload_0 i_X10_goneRisingIn_40 ?_
          refine Y_iload_1 i_X10_goneRisingIn_41 ?_
          refine Y_callVv (k' := kX10_standsUp) i_X10_goneRisingIn_42 l_X10_115 m_X10_standsUp (c_X10_standsUp (M := zs (zs M 14 T) 13 K1) x0 x1) rfl rfl rfl rfl rfl ?_
          have hq : sQr A x m j = sRise (sQ A x m j) x := by unfold sQr; rw [if_pos ⟨h28, h37⟩]
          rw [← hq]
          refine Y_aload_0 i_X10_goneRisingIn_45 ?_
          refine X_getR i_X10_goneRisingIn_46 f_X10_22 rfl ?_
          refine Y_iload_1 i_X10_goneRisingIn_49 ?_
          refine Y_iald i_X10_goneRisingIn_50 rfl ⟨by omega, by omega⟩ rfl (zg0 _ _ _ _ _) ?_
          refine X_iconst i_X10_goneRisingIn_51 ?_
          refine Y_icmp_ne i_X10_goneRisingIn_52 (tgt := 60) rfl ⟨by omega, by omega⟩ ⟨by omega, by omega⟩ (fun h52 => ?_) (fun h52 => ?_)
          · refine X_bipush i_X10_goneRisingIn_60 (by decide +kernel) ?_
            refine Y_istore_3 i_X10_goneRisingIn_62 rfl rfl ?_
            refine Y_iload_3 i_X10_goneRisingIn_63 ?_
            refine X_bipush i_X10_goneRisingIn_64 (by decide +kernel) ?_
            refine Y_icmp_ne i_X10_goneRisingIn_66 (tgt := 74) rfl ⟨by omega, by omega⟩ ⟨by omega, by omega⟩ (fun h66 => by exfalso; omega) (fun h66 => ?_)
            refine Y_aload_0 i_X10_goneRisingIn_69 ?_
            refine X_iconst i_X10_goneRisingIn_70 ?_
            refine Y_callVv (k' := kX10_goesMinute) i_X10_goneRisingIn_71 l_X10_197 m_X10_goesMinute (c_X10_goesMinute hO.2 hT (by omega)) rfl rfl rfl rfl rfl ?_
            refine Y_iinc_4 i_X10_goneRisingIn_74 rfl rfl ?_
            refine X_goto i_X10_goneRisingIn_77 (tgt := 12) rfl ?_
            exact X_eq (ih (j + 1) _ (by omega) (fun q hq => by
              by_cases e : q = j
              · subst e; exact decide_eq_false h52
              · exact hno q (by omega)) (sUn_in _ _ _ hT)) (by simp) rfl rfl
          · refine Y_iload_4 i_X10_goneRisingIn_55 ?_
            refine X_goto i_X10_goneRisingIn_57 (tgt := 62) rfl ?_
            refine Y_istore_3 i_X10_goneRisingIn_62 rfl rfl ?_
            refine Y_iload_3 i_X10_goneRisingIn_63 ?_
            refine X_bipush i_X10_goneRisingIn_64 (by decide +kernel) ?_
            refine Y_icmp_ne i_X10_goneRisingIn_66 (tgt := 74) rfl ⟨by omega, by omega⟩ ⟨by omega, by omega⟩ (fun h66 => ?_) (fun h66 => by exfalso; omega)
            refine Y_iinc_4 i_X10_goneRisingIn_74 rfl rfl ?_
            refine X_goto i_X10_goneRisingIn_77 (tgt := 12) rfl ?_
            exact X_eq (out j (j + 1) _ _ (by omega) (by omega) hT (sFst_eq hno (decide_eq_true h52) 100 (by omega))) (by simp) rfl rfl
  exact loop 100 0 S (by omega) (fun q h => absurd h (by omega)) hS
set_option maxRecDepth 100000 in
theorem c_X10_adds {M : zMem} {A : zAft} (h0 : 0 ≤ A 6 0) (h1 : A 6 0 < 6) {x y z : Int} : zCt kX10_adds 0 [.ref 38, .int (zii x), .int (zii y), .int (zii z)] ((zs M 3 A)) (zVoid (zs M 3 (sCome A x y z))) := by
  refine zMet (by decide) (Nat.le_of_ble_eq_true rfl) ?_
  show zX kX10_adds 0 0 [some (.ref 38), some (.int (zii x)), some (.int (zii y)), some (.int (zii z))] [] _ _
  refine Y_aload_0 i_X10_adds_0 ?_
  refine X_getR i_X10_adds_1 f_X10_13 rfl ?_
  refine Y_aload_0 i_X10_adds_4 ?_
  refine Y_getI i_X10_adds_5 f_X10_65 rfl (zg0 _ _ _ _ _) ?_
  refine Y_iload_1 i_X10_adds_8 ?_
  refine Y_iast i_X10_adds_9 rfl ⟨by omega, by omega⟩ rfl (zp0 _ _ _ _ _ _) ?_
  refine Y_aload_0 i_X10_adds_10 ?_
  refine X_getR i_X10_adds_11 f_X10_16 rfl ?_
  refine Y_aload_0 i_X10_adds_14 ?_
  refine Y_getI i_X10_adds_15 f_X10_65 rfl (zga (zr1 rfl rfl)) ?_
  refine Y_iload_2 i_X10_adds_18 ?_
  refine Y_iast i_X10_adds_19 rfl ⟨by omega, by omega⟩ rfl (zp0 _ _ _ _ _ _) ?_
  refine Y_aload_0 i_X10_adds_20 ?_
  refine X_getR i_X10_adds_21 f_X10_19 rfl ?_
  refine Y_aload_0 i_X10_adds_24 ?_
  refine Y_getI i_X10_adds_25 f_X10_65 rfl (zga (zr1 rfl (zr1 rfl rfl))) ?_
  refine Y_iload_3 i_X10_adds_28 ?_
  refine Y_iast i_X10_adds_29 rfl ⟨by omega, by omega⟩ rfl (zp0 _ _ _ _ _ _) ?_
  refine Y_aload_0 i_X10_adds_30 ?_
  refine X_getR i_X10_adds_31 f_X10_22 rfl ?_
  refine Y_aload_0 i_X10_adds_34 ?_
  refine Y_getI i_X10_adds_35 f_X10_65 rfl (zga (zr1 rfl (zr1 rfl (zr1 rfl rfl)))) ?_
  refine X_iconst i_X10_adds_38 ?_
  refine Y_iast i_X10_adds_39 rfl ⟨by omega, by omega⟩ rfl (zp0 _ _ _ _ _ _) ?_
  refine Y_aload_0 i_X10_adds_40 ?_
  refine X_getR i_X10_adds_41 f_X10_25 rfl ?_
  refine Y_aload_0 i_X10_adds_44 ?_
  refine Y_getI i_X10_adds_45 f_X10_65 rfl (zga (zr1 rfl (zr1 rfl (zr1 rfl (zr1 rfl rfl))))) ?_
  refine X_iconst i_X10_adds_48 ?_
  refine Y_iast i_X10_adds_49 rfl ⟨by omega, by omega⟩ rfl (zp0 _ _ _ _ _ _) ?_
  refine Y_aload_0 i_X10_adds_50 ?_
  refine X_getR i_X10_adds_51 f_X10_28 rfl ?_
  refine Y_aload_0 i_X10_adds_54 ?_
  refine Y_getI i_X10_adds_55 f_X10_65 rfl (zga (zr1 rfl (zr1 rfl (zr1 rfl (zr1 rfl (zr1 rfl rfl)))))) ?_
  refine X_iconst i_X10_adds_58 ?_
  refine Y_iast i_X10_adds_59 rfl ⟨by omega, by omega⟩ rfl (zp0 _ _ _ _ _ _) ?_
  refine Y_aload_0 i_X10_adds_60 ?_
  refine X_dup i_X10_adds_61 rfl ?_
  refine Y_getI i_X10_adds_62 f_X10_65 rfl (zga (zr1 rfl (zr1 rfl (zr1 rfl (zr1 rfl (zr1 rfl (zr1 rfl rfl))))))) ?_
  refine X_iconst i_X10_adds_65 ?_
  refine X_iadd i_X10_adds_66 ?_
  refine Y_putI i_X10_adds_67 f_X10_65 rfl t_7_7 (zp0 _ _ _ _ _ _) ?_
  refine X_vret i_X10_adds_70 rfl ?_
  exact zrv0 rfl
theorem sCome_60 (A : zAft) (x y z : Int) : sCome A x y z 6 0 = A 6 0 + 1 := by unfold sCome; rw [zr0]
set_option maxRecDepth 100000 in
theorem c_X10_goneAs {M : zMem} {A S K : zAft} (hA : zOk 999 A) (hS : zSv S) (hr : A 6 0 < 6) {k : Int} (hk : 0 ≤ k ∧ k ≤ 5) : zCt kX10_goneAs 5 [.ref 38, .int (zii k)] ((zs (zs (zs M 14 S) 13 K) 3 A)) (zQm 42 (.int (zii (sWh (sCome A k 5 5) (A 6 0) : Nat))) M K A) := by
  have h6 := hA.1
  unfold zH at h6
  have hG := sG_le hA.1
  have hC := sCome_ok hA hr hk (y := 5) (z := 5) (by omega) (by omega)
  have h60 := sCome_60 A k 5 5
  have hGC := sG_le hC.1
  have hgb := sGB_one (A := sCome A k 5 5) (x := sG A) (by omega) (by omega)
  rw [hG.2] at hgb
  refine zMet (by decide) (Nat.le_of_ble_eq_true rfl) ?_
  show zX kX10_goneAs 5 0 [some (.ref 38), some (.int (zii k)), none] [] _ _
  refine Y_aload_0 i_X10_goneAs_0 ?_
  refine X_iconst i_X10_goneAs_1 ?_
  refine X_iconst i_X10_goneAs_2 ?_
  refine Y_callVq (k' := kX10_passesAll) i_X10_goneAs_3 l_X10_137 m_X10_passesAll (c_X10_keepAll (w := 1) (by omega) (by omega)) rfl rfl rfl rfl rfl ?_
  intro r9 M9 hr9
  obtain ⟨rfl, K1, hk1, rfl⟩ := hr9
  refine X_tl0 ?_
  have he1 : zKe 42 K K1 := ⟨fun i hi => hk1.2.1 i (by omega), hk1.2.2⟩
  refine Y_aload_0 i_X10_goneAs_6 ?_
  refine Y_iload_1 i_X10_goneAs_7 ?_
  refine X_iconst i_X10_goneAs_8 ?_
  refine X_iconst i_X10_goneAs_9 ?_
  refine Y_callVv (k' := kX10_adds) i_X10_goneAs_10 l_X10_97 m_X10_adds (c_X10_adds (M := zs (zs M 14 S) 13 K1) (by omega) hr) rfl rfl rfl rfl rfl ?_
  refine Y_aload_0 i_X10_goneAs_13 ?_
  refine X_iconst i_X10_goneAs_14 ?_
  refine Y_aload_0 i_X10_goneAs_15 ?_
  refine Y_getI i_X10_goneAs_16 f_X10_65 rfl (zg0 _ _ _ _ _) ?_
  refine X_iconst i_X10_goneAs_19 ?_
  refine X_isub i_X10_goneAs_20 ?_
  rw [h60, show A 6 0 + 1 - 1 = A 6 0 by omega]
  refine X_ishl i_X10_goneAs_21 ?_
  refine Y_callVq (k' := kX10_goneBy) i_X10_goneAs_22 l_X10_222 m_X10_goneBy (c_X10_goneBy hC hS) rfl rfl rfl rfl rfl ?_
  intro r9 M9 hr9
  obtain ⟨rfl, S2, K2, hS2, hk2, rfl⟩ := hr9
  refine X_tl ?_
  refine Y_istore_2 i_X10_goneAs_25 rfl rfl ?_
  refine Y_aload_0 i_X10_goneAs_26 ?_
  refine X_iconst i_X10_goneAs_27 ?_
  refine X_iconst i_X10_goneAs_28 ?_
  refine Y_callVq (k' := kX10_passesAll) i_X10_goneAs_29 l_X10_137 m_X10_passesAll (c_X10_getAll (w := 1) (by omega) (by omega) (hk2.kp hk1.1)) rfl rfl rfl rfl rfl ?_
  intro r9 M9 hr9
  obtain ⟨rfl, K3, hk3, rfl⟩ := hr9
  refine X_tl0 ?_
  refine Y_iload_2 i_X10_goneAs_32 ?_
  refine X_iret i_X10_goneAs_33 rfl ?_
  exact ⟨by rw [hgb], S2, K3, hS2, (he1.tr hk2.mo).tr (zKe.of hk3), rfl⟩
theorem bx_tb : ∀ s g k : Nat, s < 64 → g < 6 → k < 6 → ((s ^^^ 2 ^ g).testBit k = true → s.testBit k = true ∨ k = g) := by
  have h : ∀ s : Fin 64, ∀ g : Fin 6, ∀ k : Fin 6, ((s.val ^^^ 2 ^ g.val).testBit k.val = true → s.val.testBit k.val = true ∨ k.val = g.val) := by decide +kernel
  exact fun s g k hs hg hk => h ⟨s, hs⟩ ⟨g, hg⟩ ⟨k, hk⟩
/-- a set of those who sit -/
def zSit (A : zAft) (s : Nat) : Prop := s < 64 ∧ ∀ g : Nat, g < sG A → s.testBit g = true → A 3 g = 0
theorem zSit.bit {A : zAft} {s : Nat} (hG : sG A ≤ 6) (h : zSit A s) : ∀ g : Nat, g < sG A → sBit s g = 1 → A 3 g = 0 := by
  intro g hg hb
  rw [sBit_n s g h.1 (by omega)] at hb
  refine h.2 g hg ?_
  cases e : s.testBit g with
  | true => rfl
  | false => rw [e] at hb; simp at hb
theorem zSit.turn {A : zAft} {s g : Nat} (hG : sG A ≤ 6) (h : zSit A s) (hg : g < sG A) (h3 : A 3 g = 0) : zSit A (s ^^^ 2 ^ g) := by
  refine ⟨bx_lt h.1 (by omega), fun k hk hb => ?_⟩
  rcases bx_tb s g k h.1 (by omega) (by omega) hb with h1 | h1
  · exact h.2 k hk h1
  · subst h1; exact h3
set_option maxRecDepth 100000 in
theorem c_X10_isSooner {M : zMem} {A S K : zAft} (hA : zOk 999 A) (hS : zSv S) {s g : Nat} (hs : zSit A s) (hg : g < sG A) (h3 : A 3 g = 0) : zCt kX10_isSooner 6 [.ref 38, .int (zii s), .int (zii g), .int (zii g)] ((zs (zs (zs M 14 S) 13 K) 3 A)) (zQm 42 (.int (zii (if sF A ((s ^^^ 2 ^ g : Nat) : Int) g < sF A s g then 1 else 0))) M K A) := by
  have h6 := hA.1
  unfold zH at h6
  have hG := sG_le hA.1
  have ht := hs.turn (by omega) hg h3
  have hxs := bx_xs hs.1 (show g < 6 by omega)
  have e1 : sGB (sRi A ((s ^^^ 2 ^ g : Nat) : Int) (sG A)) (zshl 1 (g : Int)) = sF A ((s ^^^ 2 ^ g : Nat) : Int) g := by
    have e9 : sG (sRi A ((s ^^^ 2 ^ g : Nat) : Int) (sG A)) = sG A := by show (sRi A _ _ 6 0).toNat = _; rw [sRi_6]; rfl
    exact sGB_one (by rw [e9]; exact hg) (by rw [e9]; omega)
  have e2 : sGB (sRi A (s : Int) (sG A)) (zshl 1 (g : Int)) = sF A s g := by
    have e9 : sG (sRi A (s : Int) (sG A)) = sG A := by show (sRi A _ _ 6 0).toNat = _; rw [sRi_6]; rfl
    exact sGB_one (by rw [e9]; exact hg) (by rw [e9]; omega)
  have f1 := sF_le A ((s ^^^ 2 ^ g : Nat) : Int) g
  have f2 := sF_le A s g
  refine zMet (by decide) (Nat.le_of_ble_eq_true rfl) ?_
  show zX kX10_isSooner 6 0 [some (.ref 38), some (.int (zii s)), some (.int (zii g)), some (.int (zii g))] [] _ _
  refine Y_aload_0 i_X10_isSooner_0 ?_
  refine Y_iload_1 i_X10_isSooner_1 ?_
  refine X_iconst i_X10_isSooner_2 ?_
  refine Y_iload_2 i_X10_isSooner_3 ?_
  refine X_ishl i_X10_isSooner_4 ?_
  refine X_ixor i_X10_isSooner_5 ?_
  rw [hxs]
  refine X_iconst i_X10_isSooner_6 ?_
  refine Y_iload_3 i_X10_isSooner_7 ?_
  refine X_ishl i_X10_isSooner_8 ?_
  refine Y_callVq (k' := kX10_goneRising) i_X10_isSooner_9 l_X10_240 m_X10_goneRising (c_X10_goneRising hA hS (ht.bit (by omega))) rfl rfl rfl rfl rfl ?_
  intro r9 M9 hr9
  obtain ⟨rfl, S1, K1, hS1, hk1, rfl⟩ := hr9
  refine X_tl ?_
  rw [e1]
  refine Y_aload_0 i_X10_isSooner_12 ?_
  refine Y_iload_1 i_X10_isSooner_13 ?_
  refine X_iconst i_X10_isSooner_14 ?_
  refine Y_iload_3 i_X10_isSooner_15 ?_
  refine X_ishl i_X10_isSooner_16 ?_
  refine Y_callVq (k' := kX10_goneRising) i_X10_isSooner_17 l_X10_240 m_X10_goneRising (c_X10_goneRising hA hS1 (hs.bit (by omega))) rfl rfl rfl rfl rfl ?_
  intro r9 M9 hr9
  obtain ⟨rfl, S2, K2, hS2, hk2, rfl⟩ := hr9
  refine X_tl ?_
  rw [e2]
  refine X_icmp_ge i_X10_isSooner_20 (tgt := 27) rfl ⟨by omega, by omega⟩ ⟨by omega, by omega⟩ (fun h20 => ?_) (fun h20 => ?_)
  · refine X_iconst i_X10_isSooner_27 ?_
    refine X_zret i_X10_isSooner_28 rfl (by omega) ?_
    exact ⟨by rw [if_neg (by omega)], S2, K2, hS2, hk1.tr hk2, rfl⟩
  · refine X_iconst i_X10_isSooner_23 ?_
    refine X_goto i_X10_isSooner_24 (tgt := 28) rfl ?_
    refine X_zret i_X10_isSooner_28 rfl (by omega) ?_
    exact ⟨by rw [if_pos (by omega)], S2, K2, hS2, hk1.tr hk2, rfl⟩
set_option maxRecDepth 100000 in
theorem c_X10_isAtRest {M : zMem} {A S K : zAft} (hA : zOk 999 A) (hS : zSv S) {s : Nat} (hs : zSit A s) : zCt kX10_isAtRest 7 [.ref 38, .int (zii s), .int (zii ((sSn A 0 (sG A) : Nat) : Int))] ((zs (zs (zs M 14 S) 13 K) 3 A)) (zQm 42 (.int (zii (if sRf A s (sSn A 0 (sG A)) (sG A) = true then 1 else 0))) M K A) := by
  have h6 := hA.1
  unfold zH at h6
  have hG := sG_le hA.1
  refine zMet (by decide) (Nat.le_of_ble_eq_true rfl) ?_
  show zX kX10_isAtRest 7 0 [some (.ref 38), some (.int (zii s)), some (.int (zii ((sSn A 0 (sG A) : Nat) : Int))), none] [] _ _
  have loop : ∀ (n : Nat) (g : Nat) (T L : zAft), g + n = sG A → zSv T → zKe 42 K L → sRf A s (sSn A 0 (sG A)) g = true → zX kX10_isAtRest 7 2 [some (.ref 38), some (.int (zii s)), some (.int (zii ((sSn A 0 (sG A) : Nat) : Int))), some (.int (zii g))] [] (zs (zs (zs M 14 T) 13 L) 3 A) (zQm 42 (.int (zii (if sRf A s (sSn A 0 (sG A)) (sG A) = true then 1 else 0))) M K A) := by
    intro n
    induction n with
    | zero =>
      intro g T L hg hT hL ha
      obtain rfl : g = sG A := by omega
      refine Y_iload_3 i_X10_isAtRest_2 ?_
      refine Y_aload_0 i_X10_isAtRest_3 ?_
      refine Y_getI i_X10_isAtRest_4 f_X10_65 rfl (zg0 _ _ _ _ _) ?_
      refine X_icmp_ge i_X10_isAtRest_7 (tgt := 36) rfl ⟨by omega, by omega⟩ ⟨by omega, by omega⟩ (fun h7 => ?_) (fun h7 => by exfalso; omega)
      refine X_iconst i_X10_isAtRest_36 ?_
      refine X_zret i_X10_isAtRest_37 rfl (by omega) ?_
      exact ⟨by rw [ha]; rfl, T, L, hT, hL, rfl⟩
    | succ n ih =>
      intro g T L hg hT hL ha
      have hbn := sBit_n (sSn A 0 (sG A)) g (sSn_64 A 0 (by omega)) (by omega)
      have hb3 := sSn_bit A 0 g (sG A)
      refine Y_iload_3 i_X10_isAtRest_2 ?_
      refine Y_aload_0 i_X10_isAtRest_3 ?_
      refine Y_getI i_X10_isAtRest_4 f_X10_65 rfl (zg0 _ _ _ _ _) ?_
      refine X_icmp_ge i_X10_isAtRest_7 (tgt := 36) rfl ⟨by omega, by omega⟩ ⟨by omega, by omega⟩ (fun h7 => by exfalso; omega) (fun h7 => ?_)
      refine Y_iload_2 i_X10_isAtRest_10 ?_
      refine Y_iload_3 i_X10_isAtRest_11 ?_
      refine Y_callS (k' := kX10_has) i_X10_isAtRest_12 l_X10_216 m_X10_has c_X10_has rfl rfl rfl rfl ?_
      refine Y_ifq_eq i_X10_isAtRest_15 (tgt := 30) rfl  (fun h15 => ?_) (fun h15 => ?_)
      · refine Y_iinc_3 i_X10_isAtRest_30 rfl rfl ?_
        refine X_goto i_X10_isAtRest_33 (tgt := 2) rfl ?_
        exact X_eq (ih (g + 1) _ _ (by omega) hT hL (by simp only [sRf, Bool.and_eq_true]; refine ⟨ha, ?_⟩; rw [show (sSn A 0 (sG A)).testBit g = false by
          cases e : (sSn A 0 (sG A)).testBit g with
          | false => rfl
          | true => exact absurd (by rw [hbn, e]; rfl) h15]; rfl)) (by simp) rfl rfl
      · have htb : (sSn A 0 (sG A)).testBit g = true := by
          cases e : (sSn A 0 (sG A)).testBit g with
          | true => rfl
          | false => rw [e] at hbn; rw [hbn] at h15; simp at h15
        have h3 : A 3 g = 0 := by rw [htb] at hb3; simp only [Bool.and_eq_true, decide_eq_true_eq, Bool.true_eq] at hb3; exact hb3.2
        refine Y_aload_0 i_X10_isAtRest_18 ?_
        refine Y_iload_1 i_X10_isAtRest_19 ?_
        refine Y_iload_3 i_X10_isAtRest_20 ?_
        refine Y_iload_3 i_X10_isAtRest_21 ?_
        refine Y_callVq (k' := kX10_isSooner) i_X10_isAtRest_22 l_X10_247 m_X10_isSooner (c_X10_isSooner hA hT hs (by omega) h3) rfl rfl rfl rfl rfl ?_
        intro r9 M9 hr9
        obtain ⟨rfl, S2, K2, hS2, hk2, rfl⟩ := hr9
        refine X_tl ?_
        refine Y_ifq_eq i_X10_isAtRest_25 (tgt := 30) rfl  (fun h25 => ?_) (fun h25 => ?_)
        · refine Y_iinc_3 i_X10_isAtRest_30 rfl rfl ?_
          refine X_goto i_X10_isAtRest_33 (tgt := 2) rfl ?_
          exact X_eq (ih (g + 1) _ _ (by omega) hS2 (hL.tr hk2) (by simp only [sRf, Bool.and_eq_true]; refine ⟨ha, ?_⟩; rw [htb, Bool.not_true, Bool.false_or, decide_eq_true_eq]; omega)) (by simp) rfl rfl
        · refine X_iconst i_X10_isAtRest_28 ?_
          refine X_zret i_X10_isAtRest_29 rfl (by omega) ?_
          exact ⟨by rw [if_neg]; intro z; have z2 := sRf_le (n := g + 1) (by omega) z; simp only [sRf, Bool.and_eq_true, htb, Bool.not_true, Bool.false_or, decide_eq_true_eq] at z2; omega, S2, K2, hS2, hL.tr hk2, rfl⟩
  refine X_iconst i_X10_isAtRest_0 ?_
  refine Y_istore_3 i_X10_isAtRest_1 rfl rfl ?_
  exact loop (sG A) 0 S K (by omega) hS zKe.rf rfl
