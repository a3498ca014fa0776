theorem zdiv_n {a b : Nat} (ha : a < 2147483648) (h0 : 0 < b) (hb : b < 2147483648) : zdiv a b = ((a / b : Nat) : Int) := by
  unfold zdiv
  rw [zii_n ha, zii_n hb, pk_div ha h0 hb, nI_toInt (Nat.lt_of_le_of_lt (Nat.div_le_self a b) ha)]
theorem zrem_n {a b : Nat} (ha : a < 2147483648) (h0 : 0 < b) (hb : b < 2147483648) : zrem a b = ((a % b : Nat) : Int) := by
  unfold zrem
  rw [zii_n ha, zii_n hb, pk_rem ha h0 hb, nI_toInt (Nat.lt_of_le_of_lt (Nat.mod_le a b) ha)]
def zRetE2 (v : Value) (M : zMem) : Option Value → zMem → Prop := fun r M' => r = some v ∧ ∃ L C, M' = zs (zs M 7 L) 1 C
theorem zre2 {a b : Int} {M : zMem} {L C : zAft} (h : a = b) : zRetE2 (.int (zii b)) M (some (.int (zii a))) (zs (zs M 7 L) 1 C) := ⟨by rw [h], L, C, rfl⟩
theorem sNl_ne {L : zAft} {s q : Nat} {G g : Nat} (hG : G ≤ 6) (hg : g < 6) (h : q ≠ s) {f : Nat → Int} : sNl L (s : Int) G f 0 (6 * (q : Int) + g) = L 0 (6 * (q : Int) + g) := by
  unfold sNl; rw [if_neg (by omega)]
set_option maxRecDepth 100000 in
theorem c_X2_isAtRest {M : zMem} {A : zAft} (e : M 0 = A) (hA : zOk 999 A) {s t : Nat} (hs : s < 64) (ht : t < 64) (h7 : ∀ g : Nat, g < sG A → t.testBit g = true → M 7 0 (6 * (s : Int) + g) = (sF A s g : Int) ∧ M 7 0 (6 * ((s ^^^ 2 ^ g : Nat) : Int) + g) = (sF A ((s ^^^ 2 ^ g : Nat) : Int) g : Int)) : zCt kX2_isAtRest 1 [.ref 32, .int (zii s), .int (zii t)] M (zRet (.int (zii (if sRf A s t (sG A) = true then 1 else 0))) M) := by
  subst e
  have h6 := hA.1
  unfold zH at h6
  have hG := sG_le hA.1
  refine zMet (by decide) (Nat.le_of_ble_eq_true rfl) ?_
  show zX kX2_isAtRest 1 0 [some (.ref 32), some (.int (zii s)), some (.int (zii t)), none, none] [] _ _
  have loop : ∀ (n : Nat) (g : Nat) (lx : Option Value), g + n = sG (M 0) → sRf (M 0) s t g = true → zX kX2_isAtRest 1 2 [some (.ref 32), some (.int (zii s)), some (.int (zii t)), some (.int (zii g)), lx] [] M (zRet (.int (zii (if sRf (M 0) s t (sG (M 0)) = true then 1 else 0))) M) := by
    intro n
    induction n with
    | zero =>
      intro g lx hg hr
      obtain rfl : g = sG (M 0) := by omega
      refine Y_iload_3 i_X2_isAtRest_2 ?_
      refine Y_aload_0 i_X2_isAtRest_3 ?_
      refine X_getR i_X2_isAtRest_4 f_X2_15 rfl ?_
      refine Y_getI i_X2_isAtRest_7 f_X2_76 rfl rfl ?_
      refine X_icmp_ge i_X2_isAtRest_10 (tgt := 62) rfl ⟨by omega, by omega⟩ ⟨by omega, by omega⟩ (fun h10 => ?_) (fun h10 => by exfalso; omega)
      refine X_iconst i_X2_isAtRest_62 ?_
      refine X_zret i_X2_isAtRest_63 rfl (by omega) ?_
      exact zri (by rw [if_pos hr])
    | succ n ih =>
      intro g lx hg hr
      have hz := zand_in (a := (t : Int)) (zshl 1 (g : Int)) (by omega) (by omega)
      have hbb := bx_bit ht (g := g) (by omega)
      have hxl := bx_lt hs (g := g) (by omega)
      have hF1 := sF_le (M 0) s g
      have hF2 := sF_le (M 0) ((s ^^^ 2 ^ g : Nat) : Int) g
      refine Y_iload_3 i_X2_isAtRest_2 ?_
      refine Y_aload_0 i_X2_isAtRest_3 ?_
      refine X_getR i_X2_isAtRest_4 f_X2_15 rfl ?_
      refine Y_getI i_X2_isAtRest_7 f_X2_76 rfl rfl ?_
      refine X_icmp_ge i_X2_isAtRest_10 (tgt := 62) rfl ⟨by omega, by omega⟩ ⟨by omega, by omega⟩ (fun h10 => by exfalso; omega) (fun h10 => ?_)
      refine X_iconst i_X2_isAtRest_13 ?_
      refine Y_iload_3 i_X2_isAtRest_14 ?_
      refine X_ishl i_X2_isAtRest_15 ?_
      refine Y_istore_4 i_X2_isAtRest_16 rfl rfl ?_
      refine Y_iload_2 i_X2_isAtRest_18 ?_
      refine Y_iload_4 i_X2_isAtRest_19 ?_
      refine X_iand i_X2_isAtRest_21 ?_
      refine Y_if_ne i_X2_isAtRest_22 (tgt := 28) rfl ⟨by omega, by omega⟩ (fun h22 => ?_) (fun h22 => ?_)
      · have htb : t.testBit g = true := by
          cases hq : t.testBit g with
          | true => rfl
          | false => exact absurd (hbb.mpr hq) h22
        obtain ⟨h71, h72⟩ := h7 g (by omega) htb
        refine Y_aload_0 i_X2_isAtRest_28 ?_
        refine X_getR i_X2_isAtRest_29 f_X2_9 rfl ?_
        refine Y_iload_1 i_X2_isAtRest_32 ?_
        refine Y_iload_4 i_X2_isAtRest_33 ?_
        refine X_ixor i_X2_isAtRest_35 ?_
        rw [bx_xs hs (by omega)]
        refine Y_iload_3 i_X2_isAtRest_36 ?_
        refine Y_callS (k' := kX2_placeOf) i_X2_isAtRest_37 l_X2_79 m_X2_placeOf (c_X2_placeOf (x := (g : Int)) hxl) rfl rfl rfl rfl ?_
        refine Y_iald i_X2_isAtRest_40 rfl ⟨by omega, by omega⟩ rfl rfl ?_
        rw [h72]
        refine Y_aload_0 i_X2_isAtRest_41 ?_
        refine X_getR i_X2_isAtRest_42 f_X2_9 rfl ?_
        refine Y_iload_1 i_X2_isAtRest_45 ?_
        refine Y_iload_3 i_X2_isAtRest_46 ?_
        refine Y_callS (k' := kX2_placeOf) i_X2_isAtRest_47 l_X2_79 m_X2_placeOf (c_X2_placeOf (x := (g : Int)) hs) rfl rfl rfl rfl ?_
        refine Y_iald i_X2_isAtRest_50 rfl ⟨by omega, by omega⟩ rfl rfl ?_
        rw [h71]
        refine X_icmp_ge i_X2_isAtRest_51 (tgt := 56) rfl ⟨by omega, by omega⟩ ⟨by omega, by omega⟩ (fun h51 => ?_) (fun h51 => ?_)
        · refine Y_iinc_3 i_X2_isAtRest_56 rfl rfl ?_
          refine X_goto i_X2_isAtRest_59 (tgt := 2) rfl ?_
          exact X_eq (ih (g + 1) _ (by omega) (by simp only [sRf, hr, htb, Bool.not_true, Bool.false_or, Bool.true_and, decide_eq_true_eq]; omega)) (by simp; rfl) rfl rfl
        · refine X_iconst i_X2_isAtRest_54 ?_
          refine X_zret i_X2_isAtRest_55 rfl (by omega) ?_
          exact zri (by rw [if_neg]; intro z; have z2 := sRf_le (n := g + 1) (by omega) z; simp only [sRf, hr, htb, Bool.not_true, Bool.false_or, Bool.true_and, decide_eq_true_eq] at z2; omega)
      · refine X_goto i_X2_isAtRest_25 (tgt := 56) rfl ?_
        refine Y_iinc_3 i_X2_isAtRest_56 rfl rfl ?_
        refine X_goto i_X2_isAtRest_59 (tgt := 2) rfl ?_
        exact X_eq (ih (g + 1) _ (by omega) (by simp [sRf, hr, hbb.mp h22])) (by simp; rfl) rfl rfl
  refine X_iconst i_X2_isAtRest_0 ?_
  refine Y_istore_3 i_X2_isAtRest_1 rfl rfl ?_
  exact loop (sG (M 0)) 0 _ (by omega) rfl
set_option maxRecDepth 100000 in
theorem c_X2_setOfPair {M : zMem} {p x y : Nat} (hp : p < 4) (hx : x < 6) (hy : y < 6) : zCt kX2_setOfPair 0 [.int (zii p), .int (zii x), .int (zii y)] M (zRet (.int (zii (sPs p x y : Nat))) M) := by
  refine zMet (by decide) (Nat.le_of_ble_eq_true rfl) ?_
  show zX kX2_setOfPair 0 0 [some (.int (zii p)), some (.int (zii x)), some (.int (zii y))] [] _ _
  refine Y_iload_0 i_X2_setOfPair_0 ?_
  refine X_iconst i_X2_setOfPair_1 ?_
  refine X_idiv i_X2_setOfPair_2 ⟨by omega, by omega⟩ (by omega) ?_
  rw [show zdiv (p : Int) 2 = ((p / 2 : Nat) : Int) from zdiv_n (a := p) (b := 2) (by omega) (by omega) (by omega)]
  refine Y_iload_1 i_X2_setOfPair_3 ?_
  refine X_ishl i_X2_setOfPair_4 ?_
  refine Y_iload_0 i_X2_setOfPair_5 ?_
  refine X_iconst i_X2_setOfPair_6 ?_
  refine X_irem i_X2_setOfPair_7 ⟨by omega, by omega⟩ (by omega) ?_
  rw [show zrem (p : Int) 2 = ((p % 2 : Nat) : Int) from zrem_n (a := p) (b := 2) (by omega) (by omega) (by omega)]
  refine Y_iload_2 i_X2_setOfPair_8 ?_
  refine X_ishl i_X2_setOfPair_9 ?_
  refine X_ior i_X2_setOfPair_10 ?_
  refine X_iret i_X2_setOfPair_11 rfl ?_
  exact zri (sPs_at p x y hp hx hy).1
set_option maxRecDepth 100000 in
theorem c_X2_balanceOf {M : zMem} {A B L : zAft} (e : M 0 = A) (hA : zOk 999 A) {x y : Nat} (hx : x < sG A) (hy : y < sG A) (hne : x ≠ y) : zCt kX2_balanceOf 5 [.ref 32, .int (zii x), .int (zii y)] ((zs (zs M 7 L) 1 B)) (zRetE2 (.int (zii (sBa A x y))) M) := by
  subst e
  have h6 := hA.1
  unfold zH at h6
  have hG := sG_le hA.1
  have hgr : zor (zshl 1 (x : Int)) (zshl 1 (y : Int)) = ((2 ^ x ||| 2 ^ y : Nat) : Int) := by
    have h2 : (2 : Nat) ^ x ≤ 2 ^ 6 := Nat.pow_le_pow_right (by omega) (by omega)
    have h3 : (2 : Nat) ^ y ≤ 2 ^ 6 := Nat.pow_le_pow_right (by omega) (by omega)
    rw [zshl_n x (by omega), zshl_n y (by omega), zor_n (by omega) (by omega)]
  have hgl : 2 ^ x ||| 2 ^ y < 64 := Nat.or_lt_two_pow (n := 6) (Nat.pow_lt_pow_right (by omega) (by omega)) (Nat.pow_lt_pow_right (by omega) (by omega))
  refine zMet (by decide) (Nat.le_of_ble_eq_true rfl) ?_
  show zX kX2_balanceOf 5 0 [some (.ref 32), some (.int (zii x)), some (.int (zii y)), none, none] [] _ _
  have loopb : ∀ (n : Nat) (p : Nat) (L C : zAft), p + n = 4 → (∀ q : Nat, q < 4 → ∀ g : Nat, g < sG (M 0) → L 0 (6 * ((sPs q x y : Nat) : Int) + g) = (sF (M 0) (sPs q x y : Nat) g : Int)) → (∀ q, q < p → sBl (M 0) x y q = false) → zX kX2_balanceOf 5 37 [some (.ref 32), some (.int (zii x)), some (.int (zii y)), some (.int (zii ((2 ^ x ||| 2 ^ y : Nat) : Int))), some (.int (zii p))] [] (zs (zs M 7 L) 1 C) (zRetE2 (.int (zii (sBa (M 0) x y))) M) := by
    intro n
    induction n with
    | zero =>
      intro p L C hg hL hno
      obtain rfl : p = 4 := by omega
      have e9 := sFst_none (p := sBl (M 0) x y) 4 hno
      refine Y_iload_4 i_X2_balanceOf_37 ?_
      refine X_iconst i_X2_balanceOf_39 ?_
      refine X_icmp_ge i_X2_balanceOf_40 (tgt := 77) rfl ⟨by omega, by omega⟩ ⟨by omega, by omega⟩ (fun h40 => ?_) (fun h40 => by exfalso; omega)
      refine X_bipush i_X2_balanceOf_77 (by decide +kernel) ?_
      refine X_iret i_X2_balanceOf_79 rfl ?_
      exact zre2 (by unfold sBa; rw [if_pos e9])
    | succ n ih =>
      intro p L C hg hL hno
      have hps := (sPs_at p x y (by omega) (by omega) (by omega)).2
      refine Y_iload_4 i_X2_balanceOf_37 ?_
      refine X_iconst i_X2_balanceOf_39 ?_
      refine X_icmp_ge i_X2_balanceOf_40 (tgt := 77) rfl ⟨by omega, by omega⟩ ⟨by omega, by omega⟩ (fun h40 => by exfalso; omega) (fun h40 => ?_)
      refine Y_aload_0 i_X2_balanceOf_43 ?_
      refine Y_iload_4 i_X2_balanceOf_44 ?_
      refine Y_iload_1 i_X2_balanceOf_46 ?_
      refine Y_iload_2 i_X2_balanceOf_47 ?_
      refine Y_callS (k' := kX2_setOfPair) i_X2_balanceOf_48 l_X2_86 m_X2_setOfPair (c_X2_setOfPair (by omega) (by omega) (by omega)) rfl rfl rfl rfl ?_
      refine Y_iload_3 i_X2_balanceOf_51 ?_
      refine Y_callV (k' := kX2_isAtRest) i_X2_balanceOf_52 l_X2_93 m_X2_isAtRest (c_X2_isAtRest (M := zs (zs M 7 L) 1 C) (A := M 0) rfl hA hps hgl (fun g hg hb => by
            obtain ⟨q9, hq9, eq9⟩ := sPs_turn p x y g (by omega) (by omega) (by omega) (by omega) hne hb
            refine ⟨hL p (by omega) g hg, ?_⟩
            rw [eq9]
            exact hL q9 hq9 g hg)) rfl rfl rfl rfl rfl ?_
      refine Y_ifq_eq i_X2_balanceOf_55 (tgt := 71) rfl  (fun h55 => ?_) (fun h55 => ?_)
      · refine Y_iinc_4 i_X2_balanceOf_71 rfl rfl ?_
        refine X_goto i_X2_balanceOf_74 (tgt := 37) rfl ?_
        exact X_eq (ih (p + 1) _ _ (by omega) hL (fun q hq => by
          by_cases e : q = p
          · subst e; exact Bool.eq_false_iff.mpr h55
          · exact hno q (by omega))) (by simp) rfl rfl
      · refine X_bipush i_X2_balanceOf_58 (by decide +kernel) ?_
        refine Y_iload_4 i_X2_balanceOf_60 ?_
        refine X_iconst i_X2_balanceOf_62 ?_
        refine X_idiv i_X2_balanceOf_63 ⟨by omega, by omega⟩ (by omega) ?_
        rw [show zdiv (p : Int) 2 = ((p / 2 : Nat) : Int) from zdiv_n (a := p) (b := 2) (by omega) (by omega) (by omega)]
        refine X_imul i_X2_balanceOf_64 ?_
        refine Y_iload_4 i_X2_balanceOf_65 ?_
        refine X_iconst i_X2_balanceOf_67 ?_
        refine X_irem i_X2_balanceOf_68 ⟨by omega, by omega⟩ (by omega) ?_
        rw [show zrem (p : Int) 2 = ((p % 2 : Nat) : Int) from zrem_n (a := p) (b := 2) (by omega) (by omega) (by omega)]
        refine X_iadd i_X2_balanceOf_69 ?_
        refine X_iret i_X2_balanceOf_70 rfl ?_
        have e9 := sFst_eq (p := sBl (M 0) x y) hno h55 4 (by omega)
        exact zre2 (by unfold sBa; rw [if_neg (by omega), e9])
  have loopa : ∀ (n : Nat) (p : Nat) (L C : zAft), p + n = 4 → (∀ q : Nat, q < p → ∀ g : Nat, g < sG (M 0) → L 0 (6 * ((sPs q x y : Nat) : Int) + g) = (sF (M 0) (sPs q x y : Nat) g : Int)) → zX kX2_balanceOf 5 11 [some (.ref 32), some (.int (zii x)), some (.int (zii y)), some (.int (zii ((2 ^ x ||| 2 ^ y : Nat) : Int))), some (.int (zii p))] [] (zs (zs M 7 L) 1 C) (zRetE2 (.int (zii (sBa (M 0) x y))) M) := by
    intro n
    induction n with
    | zero =>
      intro p L C hg hL
      obtain rfl : p = 4 := by omega
      refine Y_iload_4 i_X2_balanceOf_11 ?_
      refine X_iconst i_X2_balanceOf_13 ?_
      refine X_icmp_ge i_X2_balanceOf_14 (tgt := 34) rfl ⟨by omega, by omega⟩ ⟨by omega, by omega⟩ (fun h14 => ?_) (fun h14 => by exfalso; omega)
      refine X_iconst i_X2_balanceOf_34 ?_
      refine Y_istore_4 i_X2_balanceOf_35 rfl rfl ?_
      exact loopb 4 0 _ _ (by omega) hL (fun q h => absurd h (by omega))
    | succ n ih =>
      intro p L C hg hL
      have hps := (sPs_at p x y (by omega) (by omega) (by omega)).2
      refine Y_iload_4 i_X2_balanceOf_11 ?_
      refine X_iconst i_X2_balanceOf_13 ?_
      refine X_icmp_ge i_X2_balanceOf_14 (tgt := 34) rfl ⟨by omega, by omega⟩ ⟨by omega, by omega⟩ (fun h14 => by exfalso; omega) (fun h14 => ?_)
      refine Y_aload_0 i_X2_balanceOf_17 ?_
      refine Y_iload_4 i_X2_balanceOf_18 ?_
      refine Y_iload_1 i_X2_balanceOf_20 ?_
      refine Y_iload_2 i_X2_balanceOf_21 ?_
      refine Y_callS (k' := kX2_setOfPair) i_X2_balanceOf_22 l_X2_86 m_X2_setOfPair (c_X2_setOfPair (by omega) (by omega) (by omega)) rfl rfl rfl rfl ?_
      refine Y_callVq (k' := kX2_noteLeaving) i_X2_balanceOf_25 l_X2_90 m_X2_noteLeaving (c_X2_noteLeaving (L := L) rfl hA hps) rfl rfl rfl rfl rfl ?_
      intro r9 M9 hr9
      obtain ⟨rfl, C9, rfl⟩ := hr9
      change zX _ _ _ _ [] _ _
      refine Y_iinc_4 i_X2_balanceOf_28 rfl rfl ?_
      refine X_goto i_X2_balanceOf_31 (tgt := 11) rfl ?_
      exact X_eq (ih (p + 1) _ _ (by omega) (fun q hq g hg => by
        by_cases e : sPs q x y = sPs p x y
        · rw [e]; exact sNl_at hg
        · rw [sNl_ne hG.1 (by omega) e]
          exact hL q (by
            rcases Nat.lt_or_ge q p with z | z
            · exact z
            · exact absurd (by rw [show q = p by omega]) e) g hg)) (by simp) rfl rfl
  refine X_iconst i_X2_balanceOf_0 ?_
  refine Y_iload_1 i_X2_balanceOf_1 ?_
  refine X_ishl i_X2_balanceOf_2 ?_
  refine X_iconst i_X2_balanceOf_3 ?_
  refine Y_iload_2 i_X2_balanceOf_4 ?_
  refine X_ishl i_X2_balanceOf_5 ?_
  refine X_ior i_X2_balanceOf_6 ?_
  rw [hgr]
  refine Y_istore_3 i_X2_balanceOf_7 rfl rfl ?_
  refine X_iconst i_X2_balanceOf_8 ?_
  refine Y_istore_4 i_X2_balanceOf_9 rfl rfl ?_
  exact loopa 4 0 _ _ (by omega) (fun q h => absurd h (by omega))
set_option maxRecDepth 100000 in
theorem c_X2_atRestT {T : Nat} (hT : T = 64) {M : zMem} {A B L : zAft} (e : M 0 = A) (hA : zOk 999 A) {w : Int} (hw : zR w) : zCt kX2_atRest 5 [.ref 32, .int (zii w)] ((zs (zs M 7 L) 1 B)) (zRetE2 (.int (zii (if w = 0 then sAc A T else sAl A T))) M) := by
  subst e
  have h6 := hA.1
  unfold zH at h6
  have hG := sG_le hA.1
  have ht64 : (sSn (M 0) 0 (sG (M 0))) < 64 := sSn_64 _ _ hG.1
  have hw1 := hw.1
  have hw2 := hw.2
  refine zMet (by decide) (Nat.le_of_ble_eq_true rfl) ?_
  show zX kX2_atRest 5 0 [some (.ref 32), some (.int (zii w)), none, none, none, none] [] _ _
  have loopb : ∀ (n : Nat) (j : Nat) (L C : zAft), j + n = T → (∀ q : Nat, q < T → q &&& (sSn (M 0) 0 (sG (M 0))) = q → ∀ g : Nat, g < sG (M 0) → L 0 (6 * (q : Int) + g) = (sF (M 0) (q : Int) g : Int)) → zX kX2_atRest 5 50 [some (.ref 32), some (.int (zii w)), some (.int (zii (sSn (M 0) 0 (sG (M 0)) : Nat))), some (.int (zii (sAc (M 0) j))), some (.int (zii (sAl (M 0) j))), some (.int (zii (63 - (j : Int))))] [] (zs (zs M 7 L) 1 C) (zRetE2 (.int (zii (if w = 0 then sAc (M 0) T else sAl (M 0) T))) M) := by
    intro n
    induction n with
    | zero =>
      intro j L C hg hL
      obtain rfl : T = j := by omega
      refine Y_iload_5 i_X2_atRest_50 ?_
      refine X_if_lt i_X2_atRest_52 (tgt := 90) rfl ⟨by omega, by omega⟩ (fun h52 => ?_) (fun h52 => by exfalso; omega)
      refine Y_iload_1 i_X2_atRest_90 ?_
      refine Y_if_ne i_X2_atRest_91 (tgt := 98) rfl ⟨by omega, by omega⟩ (fun h91 => ?_) (fun h91 => ?_)
      · refine Y_iload_4 i_X2_atRest_98 ?_
        refine X_iret i_X2_atRest_100 rfl ?_
        exact zre2 (by rw [if_neg h91])
      · refine Y_iload_3 i_X2_atRest_94 ?_
        refine X_goto i_X2_atRest_95 (tgt := 100) rfl ?_
        refine X_iret i_X2_atRest_100 rfl ?_
        exact zre2 (by rw [if_pos h91])
    | succ n ih =>
      intro j L C hg hL
      have hk63 : (63 : Int) - j = ((63 - j : Nat) : Int) := by omega
      have hz := zand_in (a := 63 - (j : Int)) (zxor ((sSn (M 0) 0 (sG (M 0))) : Int) (-1)) (by omega) (by omega)
      have hsb := zsub_n (63 - j) (sSn (M 0) 0 (sG (M 0))) (by omega) ht64
      rw [← hk63] at hsb
      refine Y_iload_5 i_X2_atRest_50 ?_
      refine X_if_lt i_X2_atRest_52 (tgt := 90) rfl ⟨by omega, by omega⟩ (fun h52 => by exfalso; omega) (fun h52 => ?_)
      refine Y_iload_5 i_X2_atRest_55 ?_
      refine Y_iload_2 i_X2_atRest_57 ?_
      refine X_iconst i_X2_atRest_58 ?_
      refine X_ixor i_X2_atRest_59 ?_
      refine X_iand i_X2_atRest_60 ?_
      refine Y_if_ne i_X2_atRest_61 (tgt := 84) rfl ⟨by omega, by omega⟩ (fun h61 => ?_) (fun h61 => ?_)
      · refine Y_iinc_5 i_X2_atRest_84 rfl rfl ?_
        refine X_goto i_X2_atRest_87 (tgt := 50) rfl ?_
        have hq : sAq (M 0) (63 - j) = false := by unfold sAq; rw [decide_eq_false (fun z => h61 (hsb.mpr z))]; rfl
        exact X_eq (ih (j + 1) _ _ (by omega) hL) (by rw [show (63 : Int) - ((j + 1 : Nat) : Int) = 63 - (j : Int) + -1 by omega]; simp only [sAc, sAl, hq, Bool.false_eq_true, if_false, hk63]) rfl rfl
      · rw [hk63]
        have hin := hsb.mp h61
        refine Y_aload_0 i_X2_atRest_64 ?_
        refine Y_iload_5 i_X2_atRest_65 ?_
        refine Y_iload_2 i_X2_atRest_67 ?_
        refine Y_callV (k' := kX2_isAtRest) i_X2_atRest_68 l_X2_93 m_X2_isAtRest (c_X2_isAtRest (M := zs (zs M 7 L) 1 C) (A := M 0) (s := 63 - j) rfl hA (by omega) ht64 (fun g hg hb => ⟨hL (63 - j) (by omega) hin g hg, hL ((63 - j) ^^^ 2 ^ g) (by rw [hT]; exact bx_lt (g := g) (by omega) (by omega)) (bx_in (63 - j) (sSn (M 0) 0 (sG (M 0))) g (by omega) ht64 (by omega) hin hb) g hg⟩)) rfl rfl rfl rfl rfl ?_
        refine Y_ifq_ne i_X2_atRest_71 (tgt := 77) rfl  (fun h71 => ?_) (fun h71 => ?_)
        · refine Y_iinc_3 i_X2_atRest_77 rfl rfl ?_
          refine Y_iload_5 i_X2_atRest_80 ?_
          refine Y_istore_4 i_X2_atRest_82 rfl rfl ?_
          refine Y_iinc_5 i_X2_atRest_84 rfl rfl ?_
          refine X_goto i_X2_atRest_87 (tgt := 50) rfl ?_
          have hq : sAq (M 0) (63 - j) = true := by unfold sAq; rw [decide_eq_true hin, h71]; rfl
          exact X_eq (ih (j + 1) _ _ (by omega) hL) (by rw [show (63 : Int) - ((j + 1 : Nat) : Int) = 63 - (j : Int) + -1 by omega]; simp only [sAc, sAl, hq, if_true]; rw [← hk63]) rfl rfl
        · refine X_goto i_X2_atRest_74 (tgt := 84) rfl ?_
          refine Y_iinc_5 i_X2_atRest_84 rfl rfl ?_
          refine X_goto i_X2_atRest_87 (tgt := 50) rfl ?_
          have hq : sAq (M 0) (63 - j) = false := by unfold sAq; rw [Bool.eq_false_iff.mpr h71, Bool.and_false]
          exact X_eq (ih (j + 1) _ _ (by omega) hL) (by rw [show (63 : Int) - ((j + 1 : Nat) : Int) = 63 - (j : Int) + -1 by omega]; simp only [sAc, sAl, hq, Bool.false_eq_true, if_false, hk63]) rfl rfl
  have loopa : ∀ (n : Nat) (j : Nat) (L C : zAft), j + n = T → (∀ q : Nat, q < j → q &&& (sSn (M 0) 0 (sG (M 0))) = q → ∀ g : Nat, g < sG (M 0) → L 0 (6 * (q : Int) + g) = (sF (M 0) (q : Int) g : Int)) → zX kX2_atRest 5 18 [some (.ref 32), some (.int (zii w)), some (.int (zii (sSn (M 0) 0 (sG (M 0)) : Nat))), some (.int (zii 0)), some (.int (zii (-9))), some (.int (zii j))] [] (zs (zs M 7 L) 1 C) (zRetE2 (.int (zii (if w = 0 then sAc (M 0) T else sAl (M 0) T))) M) := by
    intro n
    induction n with
    | zero =>
      intro j L C hg hL
      obtain rfl : T = j := by omega
      refine Y_iload_5 i_X2_atRest_18 ?_
      refine X_bipush i_X2_atRest_20 (by decide +kernel) ?_
      refine X_icmp_ge i_X2_atRest_22 (tgt := 46) rfl ⟨by omega, by omega⟩ ⟨by omega, by omega⟩ (fun h22 => ?_) (fun h22 => by exfalso; omega)
      refine X_bipush i_X2_atRest_46 (by decide +kernel) ?_
      refine Y_istore_5 i_X2_atRest_48 rfl rfl ?_
      exact loopb T 0 _ _ (by omega) hL
    | succ n ih =>
      intro j L C hg hL
      have hz := zand_in (a := (j : Int)) (zxor ((sSn (M 0) 0 (sG (M 0))) : Int) (-1)) (by omega) (by omega)
      have hsb := zsub_n j (sSn (M 0) 0 (sG (M 0))) (by omega) ht64
      refine Y_iload_5 i_X2_atRest_18 ?_
      refine X_bipush i_X2_atRest_20 (by decide +kernel) ?_
      refine X_icmp_ge i_X2_atRest_22 (tgt := 46) rfl ⟨by omega, by omega⟩ ⟨by omega, by omega⟩ (fun h22 => by exfalso; omega) (fun h22 => ?_)
      refine Y_iload_5 i_X2_atRest_25 ?_
      refine Y_iload_2 i_X2_atRest_27 ?_
      refine X_iconst i_X2_atRest_28 ?_
      refine X_ixor i_X2_atRest_29 ?_
      refine X_iand i_X2_atRest_30 ?_
      refine Y_if_ne i_X2_atRest_31 (tgt := 40) rfl ⟨by omega, by omega⟩ (fun h31 => ?_) (fun h31 => ?_)
      · refine Y_iinc_5 i_X2_atRest_40 rfl rfl ?_
        refine X_goto i_X2_atRest_43 (tgt := 18) rfl ?_
        exact X_eq (ih (j + 1) _ _ (by omega) (fun q hq hqs g hgg9 => by
          by_cases e : q = j
          · exact absurd (hsb.mpr (by rw [← e]; exact hqs)) h31
          · exact hL q (by omega) hqs g hgg9)) (by simp) rfl rfl
      · refine Y_aload_0 i_X2_atRest_34 ?_
        refine Y_iload_5 i_X2_atRest_35 ?_
        refine Y_callVq (k' := kX2_noteLeaving) i_X2_atRest_37 l_X2_90 m_X2_noteLeaving (c_X2_noteLeaving (L := L) (s := j) rfl hA (by omega)) rfl rfl rfl rfl rfl ?_
        intro r9 M9 hr9
        obtain ⟨rfl, C9, rfl⟩ := hr9
        change zX _ _ _ _ [] _ _
        refine Y_iinc_5 i_X2_atRest_40 rfl rfl ?_
        refine X_goto i_X2_atRest_43 (tgt := 18) rfl ?_
        exact X_eq (ih (j + 1) _ _ (by omega) (fun q hq hqs g hgg9 => by
          by_cases e : q = j
          · subst e; exact sNl_at hgg9
          · rw [sNl_ne hG.1 (by omega) e]
            exact hL q (by omega) hqs g hgg9)) (by simp) rfl rfl
  refine Y_aload_0 i_X2_atRest_0 ?_
  refine X_getR i_X2_atRest_1 f_X2_15 rfl ?_
  refine X_iconst i_X2_atRest_4 ?_
  refine Y_callV (k' := kX0_setOf) i_X2_atRest_5 l_X2_55 m_X0_setOf (c_X0_setOf (M := zs (zs M 7 L) 1 B) (i := 0) (A := M 0) (by omega) rfl hA (zR_lit rfl)) rfl rfl rfl rfl rfl ?_
  rw [sSet_n (M 0) 0 (sG (M 0)) hG.1]
  refine Y_istore_2 i_X2_atRest_8 rfl rfl ?_
  refine X_iconst i_X2_atRest_9 ?_
  refine Y_istore_3 i_X2_atRest_10 rfl rfl ?_
  refine X_bipush i_X2_atRest_11 (by decide +kernel) ?_
  refine Y_istore_4 i_X2_atRest_13 rfl rfl ?_
  refine X_iconst i_X2_atRest_15 ?_
  refine Y_istore_5 i_X2_atRest_16 rfl rfl ?_
  exact loopa T 0 _ _ (by omega) (fun q h => absurd h (by omega))
def sAtr (A : zAft) (w : Int) : Int := if w = 0 then sAc A 64 else sAl A 64
theorem c_X2_atRest {M : zMem} {A B L : zAft} (e : M 0 = A) (hA : zOk 999 A) {w : Int} (hw : zR w) : zCt kX2_atRest 5 [.ref 32, .int (zii w)] (zs (zs M 7 L) 1 B) (zRetE2 (.int (zii (sAtr A w))) M) := c_X2_atRestT rfl e hA hw
