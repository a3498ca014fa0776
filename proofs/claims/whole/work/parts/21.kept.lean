def zsl (A : zAft) (x : Int) : Int := if x < 36 then A (x / 6).toNat (x % 6) else A 6 (x - 36)
theorem zsl_r (A : zAft) (r : Nat) (hr : r < 6) {i : Int} (h0 : 0 ≤ i) (h1 : i < 6) : zsl A (6 * (r : Int) + i) = A r i := by
  unfold zsl
  rw [if_pos (by omega), show (6 * (r : Int) + i) / 6 = r by omega, show (6 * (r : Int) + i) % 6 = i by omega]; rfl
theorem zsl_6 (A : zAft) {i : Int} (h0 : 0 ≤ i) : zsl A (36 + i) = A 6 i := by
  unfold zsl
  rw [if_neg (by omega), show 36 + i - 36 = i by omega]
/-- slot w holds A -/
def zKp (K : zAft) (w : Int) (A : zAft) : Prop := ∀ x : Int, 0 ≤ x → x < 41 → K 0 (42 * w + x) = zsl A x
def zKe (a : Int) (K K' : zAft) : Prop := (∀ i : Int, i < a ∨ 126 ≤ i → K' 0 i = K 0 i) ∧ K' 1 0 = K 1 0 ∧ K' 1 3 = K 1 3
theorem zKe.rf {a : Int} {K : zAft} : zKe a K K := ⟨fun _ _ => rfl, rfl, rfl⟩
theorem zKe.tr {a : Int} {K K1 K2 : zAft} (h : zKe a K K1) (h2 : zKe a K1 K2) : zKe a K K2 := ⟨fun i hi => (h2.1 i hi).trans (h.1 i hi), h2.2.1.trans h.2.1, h2.2.2.trans h.2.2⟩
theorem zKe.mo {K K1 : zAft} (h : zKe 84 K K1) : zKe 42 K K1 := ⟨fun i hi => h.1 i (by omega), h.2⟩
theorem zKe.kp {K K1 A : zAft} (h : zKe 84 K K1) (hk : zKp K 1 A) : zKp K1 1 A := fun x h0 h1 => (h.1 _ (by omega)).trans (hk x h0 h1)
theorem zKe.k0 {a : Int} {K K1 A : zAft} (ha : 42 ≤ a) (h : zKe a K K1) (hk : zKp K 0 A) : zKp K1 0 A := fun x h0 h1 => (h.1 _ (by omega)).trans (hk x h0 h1)
theorem zKe.kb {a : Int} {K K1 A : zAft} {j : Int} (hj : 0 ≤ j) (h : zKe a K K1) (hk : zKp K (3 + j) A) : zKp K1 (3 + j) A := fun x h0 h1 => (h.1 _ (by omega)).trans (hk x h0 h1)
theorem zKe.of {a : Int} {K K1 : zAft} (h : K1 0 = K 0 ∧ K1 1 0 = K 1 0 ∧ K1 1 3 = K 1 3) : zKe a K K1 := ⟨fun i _ => by rw [h.1], h.2⟩
theorem zKp.eq {K K1 A : zAft} {w : Int} (h : K1 0 = K 0) (hk : zKp K w A) : zKp K1 w A := fun x h0 h1 => by rw [h]; exact hk x h0 h1
/-- n places of A are kept from 42 w on -/
def zPa (w : Int) (A K K' : zAft) (n : Int) : Prop := (∀ x : Int, 0 ≤ x → x < n → K' 0 (42 * w + x) = zsl A x) ∧ (∀ i : Int, i < 42 * w ∨ 42 * w + n ≤ i → K' 0 i = K 0 i) ∧ K' 1 2 = 42 * w + n ∧ K' 1 1 = 1 ∧ K' 1 0 = K 1 0 ∧ K' 1 3 = K 1 3
theorem zPa_1 {w : Int} {A K K1 : zAft} {n v : Int} (h : zPa w A K K1 n) (hv : v = zsl A n) (h0 : 0 ≤ n) : zPa w A K (zwr (zwr K1 0 (K1 1 2) v) 1 2 (K1 1 2 + 1)) (n + 1) := by
  obtain ⟨h1, h2, h3, h4, h5, h6⟩ := h
  refine ⟨fun x x0 x1 => ?_, fun i hi => ?_, ?_, ?_, ?_, ?_⟩
  · rw [zr1 rfl rfl, h3]
    by_cases e : x = n
    · subst e; rw [zr0]; exact hv
    · rw [zr2 (by omega) rfl]; exact h1 x x0 (by omega)
  · rw [zr1 rfl rfl, h3, zr2 (by omega) rfl]; exact h2 i (by omega)
  · rw [zr0, h3]; omega
  · rw [zr2 (by decide) rfl, zr1 rfl rfl]; exact h4
  · rw [zr2 (by decide) rfl, zr1 rfl rfl]; exact h5
  · rw [zr2 (by decide) rfl, zr1 rfl rfl]; exact h6
def zGk (w : Int) (K K' : zAft) (n : Int) : Prop := K' 0 = K 0 ∧ K' 1 0 = K 1 0 ∧ K' 1 3 = K 1 3 ∧ K' 1 1 = 0 ∧ K' 1 2 = 42 * w + n
def zGs (B A : zAft) (n : Int) : Prop := ∀ x : Int, 0 ≤ x → x < n → zsl A x = zsl B x
theorem zGk_1 {w : Int} {K K1 : zAft} {n : Int} (h : zGk w K K1 n) : zGk w K (zwr K1 1 2 (K1 1 2 + 1)) (n + 1) := by
  obtain ⟨h1, h2, h3, h4, h5⟩ := h
  refine ⟨by rw [zwr_row rfl]; exact h1, ?_, ?_, ?_, ?_⟩
  · rw [zr2 (by decide) rfl]; exact h2
  · rw [zr2 (by decide) rfl]; exact h3
  · rw [zr2 (by decide) rfl]; exact h4
  · rw [zr0, h5]; omega
theorem zsl_row {A : zAft} {r : Nat} {i v x : Int} (hr : r < 6) (h0 : 0 ≤ x) (h : ¬ x = 6 * (r : Int) + i) (hi : 0 ≤ i ∧ i < 6) : zsl (zwr A r i v) x = zsl A x := by
  unfold zsl
  split
  · unfold zwr
    rw [if_neg]
    intro z
    have := z.1
    omega
  · rw [zwr_row (by simp; omega)]
theorem zGs_w {B A : zAft} {r : Nat} {i : Int} (hr : r < 6) (hi : 0 ≤ i ∧ i < 6) (h : zGs B A (6 * (r : Int) + i)) {v : Int} (hv : v = zsl B (6 * (r : Int) + i)) : zGs B (zwr A r i v) (6 * (r : Int) + i + 1) := by
  intro x x0 x1
  by_cases e : x = 6 * (r : Int) + i
  · subst e; rw [zsl_r _ r hr hi.1 hi.2, zr0]; exact hv
  · rw [zsl_row hr x0 e hi]; exact h x x0 (by omega)
theorem zGs_6 {B A : zAft} {i : Int} (hi : 0 ≤ i) (h : zGs B A (36 + i)) : zGs B (zwr A 6 i (zsl B (36 + i))) (36 + i + 1) := by
  intro x x0 x1
  by_cases e : x = 36 + i
  · subst e; rw [zsl_6 _ hi, zr0]
  · rw [← h x x0 (by omega)]
    unfold zsl
    split
    next h9 => rw [zwr_r (by omega)]
    next h9 => rw [zwr_i (by omega)]
theorem zGs_ae {B A : zAft} (h : zGs B A 41) : zAe A B := by
  refine ⟨fun r x hr x0 x1 => ?_, fun x x0 x1 => ?_⟩
  · rw [← zsl_r A r hr x0 x1, ← zsl_r B r hr x0 x1]; exact h _ (by omega) (by omega)
  · rw [← zsl_6 A x0, ← zsl_6 B x0]; exact h _ (by omega) (by omega)
set_option maxRecDepth 100000 in
theorem c_X10_passK0 {M : zMem} {A K K0 : zAft} {w : Int} (w0 : 0 ≤ w) (w1 : w ≤ 10) (h : zPa w A K K0 0) : zCt kX10_passes 0 [.ref 38, .ref 40] ((zs (zs M 13 K0) 3 A)) (fun o M9 => o = none ∧ ∃ K9, zPa w A K K9 6 ∧ M9 = zs (zs M 13 K9) 3 A) := by
  refine zMet (by decide) (Nat.le_of_ble_eq_true rfl) ?_
  show zX kX10_passes 0 0 [some (.ref 38), some (.ref 40), none] [] _ _
  have loop : ∀ (n : Nat) (k : Nat) (K1 : zAft), k + n = 6 → zPa w A K K1 (0 + k) → zX kX10_passes 0 2 [some (.ref 38), some (.ref 40), some (.int (zii k))] [] (zs (zs M 13 K1) 3 A) (fun o M9 => o = none ∧ ∃ K9, zPa w A K K9 6 ∧ M9 = zs (zs M 13 K9) 3 A) := by
    intro n
    induction n with
    | zero =>
      intro k K1 hg hp
      obtain rfl : k = 6 := by omega
      refine Y_iload_2 i_X10_passes_2 ?_
      refine Y_aload_1 i_X10_passes_3 ?_
      refine X_alen i_X10_passes_4 rfl (a := 6) (by decide +kernel) ?_
      refine X_icmp_ge i_X10_passes_5 (tgt := 58) rfl ⟨by omega, by omega⟩ ⟨by omega, by omega⟩ (fun h5 => ?_) (fun h5 => by exfalso; omega)
      refine X_vret i_X10_passes_58 rfl ?_
      exact ⟨rfl, K1, hp, rfl⟩
    | succ n ih =>
      intro k K1 hg hp
      have hp2 := hp
      obtain ⟨-, -, p3, p4, -, -⟩ := hp2
      refine Y_iload_2 i_X10_passes_2 ?_
      refine Y_aload_1 i_X10_passes_3 ?_
      refine X_alen i_X10_passes_4 rfl (a := 6) (by decide +kernel) ?_
      refine X_icmp_ge i_X10_passes_5 (tgt := 58) rfl ⟨by omega, by omega⟩ ⟨by omega, by omega⟩ (fun h5 => by exfalso; omega) (fun h5 => ?_)
      refine Y_aload_0 i_X10_passes_8 ?_
      refine Y_getI i_X10_passes_9 f_X10_147 rfl (zg1 rfl (zg0 _ _ _ _ _)) ?_
      refine X_if_eq i_X10_passes_12 (tgt := 30) rfl ⟨by omega, by omega⟩ (fun h12 => by exfalso; omega) (fun h12 => ?_)
      refine Y_aload_0 i_X10_passes_15 ?_
      refine X_getR i_X10_passes_16 f_X10_43 rfl ?_
      refine Y_aload_0 i_X10_passes_19 ?_
      refine Y_getI i_X10_passes_20 f_X10_151 rfl (zg1 rfl (zg0 _ _ _ _ _)) ?_
      refine Y_aload_1 i_X10_passes_23 ?_
      refine Y_iload_2 i_X10_passes_24 ?_
      refine Y_iald i_X10_passes_25 rfl ⟨by omega, by omega⟩ rfl (zg0 _ _ _ _ _) ?_
      refine Y_iast i_X10_passes_26 rfl ⟨by omega, by omega⟩ rfl (zp1 rfl (zp0 _ _ _ _ _ _)) ?_
      refine X_goto i_X10_passes_27 (tgt := 42) rfl ?_
      refine Y_aload_0 i_X10_passes_42 ?_
      refine X_dup i_X10_passes_43 rfl ?_
      refine Y_getI i_X10_passes_44 f_X10_151 rfl (zg1 rfl (zga (zr1 rfl rfl))) ?_
      refine X_iconst i_X10_passes_47 ?_
      refine X_iadd i_X10_passes_48 ?_
      refine Y_putI i_X10_passes_49 f_X10_151 rfl t_7_22 (zp1 rfl (zp0 _ _ _ _ _ _)) ?_
      refine Y_iinc_2 i_X10_passes_52 rfl rfl ?_
      refine X_goto i_X10_passes_55 (tgt := 2) rfl ?_
      refine X_eq (ih (k + 1) _ (by omega) (zPa_1 hp (v := A 0 (k : Int)) (zsl_r A 0 (by omega) (by omega) (by omega)).symm (by omega))) (by simp) rfl rfl
  refine X_iconst i_X10_passes_0 ?_
  refine Y_istore_2 i_X10_passes_1 rfl rfl ?_
  exact loop 6 0 K0 (by omega) h
set_option maxRecDepth 100000 in
theorem c_X10_passG0 {M : zMem} {A B K K0 : zAft} {w : Int} (w0 : 0 ≤ w) (w1 : w ≤ 10) (hk : zKp K w B) (h : zGk w K K0 0) (hs : zGs B A 0) : zCt kX10_passes 0 [.ref 38, .ref 40] ((zs (zs M 13 K0) 3 A)) (fun o M9 => o = none ∧ ∃ K9 A9, zGk w K K9 6 ∧ zGs B A9 6 ∧ M9 = zs (zs M 13 K9) 3 A9) := by
  refine zMet (by decide) (Nat.le_of_ble_eq_true rfl) ?_
  show zX kX10_passes 0 0 [some (.ref 38), some (.ref 40), none] [] _ _
  have loop : ∀ (n : Nat) (k : Nat) (K1 A1 : zAft), k + n = 6 → zGk w K K1 (0 + k) → zGs B A1 (0 + k) → zX kX10_passes 0 2 [some (.ref 38), some (.ref 40), some (.int (zii k))] [] (zs (zs M 13 K1) 3 A1) (fun o M9 => o = none ∧ ∃ K9 A9, zGk w K K9 6 ∧ zGs B A9 6 ∧ M9 = zs (zs M 13 K9) 3 A9) := by
    intro n
    induction n with
    | zero =>
      intro k K1 A1 hg hp hq
      obtain rfl : k = 6 := by omega
      refine Y_iload_2 i_X10_passes_2 ?_
      refine Y_aload_1 i_X10_passes_3 ?_
      refine X_alen i_X10_passes_4 rfl (a := 6) (by decide +kernel) ?_
      refine X_icmp_ge i_X10_passes_5 (tgt := 58) rfl ⟨by omega, by omega⟩ ⟨by omega, by omega⟩ (fun h5 => ?_) (fun h5 => by exfalso; omega)
      refine X_vret i_X10_passes_58 rfl ?_
      exact ⟨rfl, K1, A1, hp, hq, rfl⟩
    | succ n ih =>
      intro k K1 A1 hg hp hq
      have hp2 := hp
      obtain ⟨p1, -, -, p4, p5⟩ := hp2
      have hv : K1 0 (K1 1 2) = zsl B (6 * ((0 : Nat) : Int) + (k : Int)) := by rw [p1, p5]; exact hk _ (by omega) (by omega)
      refine Y_iload_2 i_X10_passes_2 ?_
      refine Y_aload_1 i_X10_passes_3 ?_
      refine X_alen i_X10_passes_4 rfl (a := 6) (by decide +kernel) ?_
      refine X_icmp_ge i_X10_passes_5 (tgt := 58) rfl ⟨by omega, by omega⟩ ⟨by omega, by omega⟩ (fun h5 => by exfalso; omega) (fun h5 => ?_)
      refine Y_aload_0 i_X10_passes_8 ?_
      refine Y_getI i_X10_passes_9 f_X10_147 rfl (zg1 rfl (zg0 _ _ _ _ _)) ?_
      refine X_if_eq i_X10_passes_12 (tgt := 30) rfl ⟨by omega, by omega⟩ (fun h12 => ?_) (fun h12 => by exfalso; omega)
      refine Y_aload_1 i_X10_passes_30 ?_
      refine Y_iload_2 i_X10_passes_31 ?_
      refine Y_aload_0 i_X10_passes_32 ?_
      refine X_getR i_X10_passes_33 f_X10_43 rfl ?_
      refine Y_aload_0 i_X10_passes_36 ?_
      refine Y_getI i_X10_passes_37 f_X10_151 rfl (zg1 rfl (zg0 _ _ _ _ _)) ?_
      refine Y_iald i_X10_passes_40 rfl ⟨by omega, by omega⟩ rfl (zg1 rfl (zg0 _ _ _ _ _)) ?_
      refine Y_iast i_X10_passes_41 rfl ⟨by omega, by omega⟩ rfl (zp0 _ _ _ _ _ _) ?_
      refine Y_aload_0 i_X10_passes_42 ?_
      refine X_dup i_X10_passes_43 rfl ?_
      refine Y_getI i_X10_passes_44 f_X10_151 rfl (zg1 rfl (zg0 _ _ _ _ _)) ?_
      refine X_iconst i_X10_passes_47 ?_
      refine X_iadd i_X10_passes_48 ?_
      refine Y_putI i_X10_passes_49 f_X10_151 rfl t_7_22 (zp1 rfl (zp0 _ _ _ _ _ _)) ?_
      refine Y_iinc_2 i_X10_passes_52 rfl rfl ?_
      refine X_goto i_X10_passes_55 (tgt := 2) rfl ?_
      refine X_eq (ih (k + 1) _ _ (by omega) (zGk_1 hp) (zGs_w (r := 0) (i := (k : Int)) (by omega) (by omega) hq hv)) (by simp) rfl rfl
  refine X_iconst i_X10_passes_0 ?_
  refine Y_istore_2 i_X10_passes_1 rfl rfl ?_
  exact loop 6 0 K0 A (by omega) h hs
set_option maxRecDepth 100000 in
theorem c_X10_passK1 {M : zMem} {A K K0 : zAft} {w : Int} (w0 : 0 ≤ w) (w1 : w ≤ 10) (h : zPa w A K K0 6) : zCt kX10_passes 0 [.ref 38, .ref 41] ((zs (zs M 13 K0) 3 A)) (fun o M9 => o = none ∧ ∃ K9, zPa w A K K9 12 ∧ M9 = zs (zs M 13 K9) 3 A) := by
  refine zMet (by decide) (Nat.le_of_ble_eq_true rfl) ?_
  show zX kX10_passes 0 0 [some (.ref 38), some (.ref 41), none] [] _ _
  have loop : ∀ (n : Nat) (k : Nat) (K1 : zAft), k + n = 6 → zPa w A K K1 (6 + k) → zX kX10_passes 0 2 [some (.ref 38), some (.ref 41), some (.int (zii k))] [] (zs (zs M 13 K1) 3 A) (fun o M9 => o = none ∧ ∃ K9, zPa w A K K9 12 ∧ M9 = zs (zs M 13 K9) 3 A) := by
    intro n
    induction n with
    | zero =>
      intro k K1 hg hp
      obtain rfl : k = 6 := by omega
      refine Y_iload_2 i_X10_passes_2 ?_
      refine Y_aload_1 i_X10_passes_3 ?_
      refine X_alen i_X10_passes_4 rfl (a := 6) (by decide +kernel) ?_
      refine X_icmp_ge i_X10_passes_5 (tgt := 58) rfl ⟨by omega, by omega⟩ ⟨by omega, by omega⟩ (fun h5 => ?_) (fun h5 => by exfalso; omega)
      refine X_vret i_X10_passes_58 rfl ?_
      exact ⟨rfl, K1, hp, rfl⟩
    | succ n ih =>
      intro k K1 hg hp
      have hp2 := hp
      obtain ⟨-, -, p3, p4, -, -⟩ := hp2
      refine Y_iload_2 i_X10_passes_2 ?_
      refine Y_aload_1 i_X10_passes_3 ?_
      refine X_alen i_X10_passes_4 rfl (a := 6) (by decide +kernel) ?_
      refine X_icmp_ge i_X10_passes_5 (tgt := 58) rfl ⟨by omega, by omega⟩ ⟨by omega, by omega⟩ (fun h5 => by exfalso; omega) (fun h5 => ?_)
      refine Y_aload_0 i_X10_passes_8 ?_
      refine Y_getI i_X10_passes_9 f_X10_147 rfl (zg1 rfl (zg0 _ _ _ _ _)) ?_
      refine X_if_eq i_X10_passes_12 (tgt := 30) rfl ⟨by omega, by omega⟩ (fun h12 => by exfalso; omega) (fun h12 => ?_)
      refine Y_aload_0 i_X10_passes_15 ?_
      refine X_getR i_X10_passes_16 f_X10_43 rfl ?_
      refine Y_aload_0 i_X10_passes_19 ?_
      refine Y_getI i_X10_passes_20 f_X10_151 rfl (zg1 rfl (zg0 _ _ _ _ _)) ?_
      refine Y_aload_1 i_X10_passes_23 ?_
      refine Y_iload_2 i_X10_passes_24 ?_
      refine Y_iald i_X10_passes_25 rfl ⟨by omega, by omega⟩ rfl (zg0 _ _ _ _ _) ?_
      refine Y_iast i_X10_passes_26 rfl ⟨by omega, by omega⟩ rfl (zp1 rfl (zp0 _ _ _ _ _ _)) ?_
      refine X_goto i_X10_passes_27 (tgt := 42) rfl ?_
      refine Y_aload_0 i_X10_passes_42 ?_
      refine X_dup i_X10_passes_43 rfl ?_
      refine Y_getI i_X10_passes_44 f_X10_151 rfl (zg1 rfl (zga (zr1 rfl rfl))) ?_
      refine X_iconst i_X10_passes_47 ?_
      refine X_iadd i_X10_passes_48 ?_
      refine Y_putI i_X10_passes_49 f_X10_151 rfl t_7_22 (zp1 rfl (zp0 _ _ _ _ _ _)) ?_
      refine Y_iinc_2 i_X10_passes_52 rfl rfl ?_
      refine X_goto i_X10_passes_55 (tgt := 2) rfl ?_
      refine X_eq (ih (k + 1) _ (by omega) (zPa_1 hp (v := A 1 (k : Int)) (zsl_r A 1 (by omega) (by omega) (by omega)).symm (by omega))) (by simp) rfl rfl
  refine X_iconst i_X10_passes_0 ?_
  refine Y_istore_2 i_X10_passes_1 rfl rfl ?_
  exact loop 6 0 K0 (by omega) h
set_option maxRecDepth 100000 in
theorem c_X10_passG1 {M : zMem} {A B K K0 : zAft} {w : Int} (w0 : 0 ≤ w) (w1 : w ≤ 10) (hk : zKp K w B) (h : zGk w K K0 6) (hs : zGs B A 6) : zCt kX10_passes 0 [.ref 38, .ref 41] ((zs (zs M 13 K0) 3 A)) (fun o M9 => o = none ∧ ∃ K9 A9, zGk w K K9 12 ∧ zGs B A9 12 ∧ M9 = zs (zs M 13 K9) 3 A9) := by
  refine zMet (by decide) (Nat.le_of_ble_eq_true rfl) ?_
  show zX kX10_passes 0 0 [some (.ref 38), some (.ref 41), none] [] _ _
  have loop : ∀ (n : Nat) (k : Nat) (K1 A1 : zAft), k + n = 6 → zGk w K K1 (6 + k) → zGs B A1 (6 + k) → zX kX10_passes 0 2 [some (.ref 38), some (.ref 41), some (.int (zii k))] [] (zs (zs M 13 K1) 3 A1) (fun o M9 => o = none ∧ ∃ K9 A9, zGk w K K9 12 ∧ zGs B A9 12 ∧ M9 = zs (zs M 13 K9) 3 A9) := by
    intro n
    induction n with
    | zero =>
      intro k K1 A1 hg hp hq
      obtain rfl : k = 6 := by omega
      refine Y_iload_2 i_X10_passes_2 ?_
      refine Y_aload_1 i_X10_passes_3 ?_
      refine X_alen i_X10_passes_4 rfl (a := 6) (by decide +kernel) ?_
      refine X_icmp_ge i_X10_passes_5 (tgt := 58) rfl ⟨by omega, by omega⟩ ⟨by omega, by omega⟩ (fun h5 => ?_) (fun h5 => by exfalso; omega)
      refine X_vret i_X10_passes_58 rfl ?_
      exact ⟨rfl, K1, A1, hp, hq, rfl⟩
    | succ n ih =>
      intro k K1 A1 hg hp hq
      have hp2 := hp
      obtain ⟨p1, -, -, p4, p5⟩ := hp2
      have hv : K1 0 (K1 1 2) = zsl B (6 * ((1 : Nat) : Int) + (k : Int)) := by rw [p1, p5]; exact hk _ (by omega) (by omega)
      refine Y_iload_2 i_X10_passes_2 ?_
      refine Y_aload_1 i_X10_passes_3 ?_
      refine X_alen i_X10_passes_4 rfl (a := 6) (by decide +kernel) ?_
      refine X_icmp_ge i_X10_passes_5 (tgt := 58) rfl ⟨by omega, by omega⟩ ⟨by omega, by omega⟩ (fun h5 => by exfalso; omega) (fun h5 => ?_)
      refine Y_aload_0 i_X10_passes_8 ?_
      refine Y_getI i_X10_passes_9 f_X10_147 rfl (zg1 rfl (zg0 _ _ _ _ _)) ?_
      refine X_if_eq i_X10_passes_12 (tgt := 30) rfl ⟨by omega, by omega⟩ (fun h12 => ?_) (fun h12 => by exfalso; omega)
      refine Y_aload_1 i_X10_passes_30 ?_
      refine Y_iload_2 i_X10_passes_31 ?_
      refine Y_aload_0 i_X10_passes_32 ?_
      refine X_getR i_X10_passes_33 f_X10_43 rfl ?_
      refine Y_aload_0 i_X10_passes_36 ?_
      refine Y_getI i_X10_passes_37 f_X10_151 rfl (zg1 rfl (zg0 _ _ _ _ _)) ?_
      refine Y_iald i_X10_passes_40 rfl ⟨by omega, by omega⟩ rfl (zg1 rfl (zg0 _ _ _ _ _)) ?_
      refine Y_iast i_X10_passes_41 rfl ⟨by omega, by omega⟩ rfl (zp0 _ _ _ _ _ _) ?_
      refine Y_aload_0 i_X10_passes_42 ?_
      refine X_dup i_X10_passes_43 rfl ?_
      refine Y_getI i_X10_passes_44 f_X10_151 rfl (zg1 rfl (zg0 _ _ _ _ _)) ?_
      refine X_iconst i_X10_passes_47 ?_
      refine X_iadd i_X10_passes_48 ?_
      refine Y_putI i_X10_passes_49 f_X10_151 rfl t_7_22 (zp1 rfl (zp0 _ _ _ _ _ _)) ?_
      refine Y_iinc_2 i_X10_passes_52 rfl rfl ?_
      refine X_goto i_X10_passes_55 (tgt := 2) rfl ?_
      refine X_eq (ih (k + 1) _ _ (by omega) (zGk_1 hp) (zGs_w (r := 1) (i := (k : Int)) (by omega) (by omega) hq hv)) (by simp) rfl rfl
  refine X_iconst i_X10_passes_0 ?_
  refine Y_istore_2 i_X10_passes_1 rfl rfl ?_
  exact loop 6 0 K0 A (by omega) h hs
set_option maxRecDepth 100000 in
theorem c_X10_passK2 {M : zMem} {A K K0 : zAft} {w : Int} (w0 : 0 ≤ w) (w1 : w ≤ 10) (h : zPa w A K K0 12) : zCt kX10_passes 0 [.ref 38, .ref 42] ((zs (zs M 13 K0) 3 A)) (fun o M9 => o = none ∧ ∃ K9, zPa w A K K9 18 ∧ M9 = zs (zs M 13 K9) 3 A) := by
  refine zMet (by decide) (Nat.le_of_ble_eq_true rfl) ?_
  show zX kX10_passes 0 0 [some (.ref 38), some (.ref 42), none] [] _ _
  have loop : ∀ (n : Nat) (k : Nat) (K1 : zAft), k + n = 6 → zPa w A K K1 (12 + k) → zX kX10_passes 0 2 [some (.ref 38), some (.ref 42), some (.int (zii k))] [] (zs (zs M 13 K1) 3 A) (fun o M9 => o = none ∧ ∃ K9, zPa w A K K9 18 ∧ M9 = zs (zs M 13 K9) 3 A) := by
    intro n
    induction n with
    | zero =>
      intro k K1 hg hp
      obtain rfl : k = 6 := by omega
      refine Y_iload_2 i_X10_passes_2 ?_
      refine Y_aload_1 i_X10_passes_3 ?_
      refine X_alen i_X10_passes_4 rfl (a := 6) (by decide +kernel) ?_
      refine X_icmp_ge i_X10_passes_5 (tgt := 58) rfl ⟨by omega, by omega⟩ ⟨by omega, by omega⟩ (fun h5 => ?_) (fun h5 => by exfalso; omega)
      refine X_vret i_X10_passes_58 rfl ?_
      exact ⟨rfl, K1, hp, rfl⟩
    | succ n ih =>
      intro k K1 hg hp
      have hp2 := hp
      obtain ⟨-, -, p3, p4, -, -⟩ := hp2
      refine Y_iload_2 i_X10_passes_2 ?_
      refine Y_aload_1 i_X10_passes_3 ?_
      refine X_alen i_X10_passes_4 rfl (a := 6) (by decide +kernel) ?_
      refine X_icmp_ge i_X10_passes_5 (tgt := 58) rfl ⟨by omega, by omega⟩ ⟨by omega, by omega⟩ (fun h5 => by exfalso; omega) (fun h5 => ?_)
      refine Y_aload_0 i_X10_passes_8 ?_
      refine Y_getI i_X10_passes_9 f_X10_147 rfl (zg1 rfl (zg0 _ _ _ _ _)) ?_
      refine X_if_eq i_X10_passes_12 (tgt := 30) rfl ⟨by omega, by omega⟩ (fun h12 => by exfalso; omega) (fun h12 => ?_)
      refine Y_aload_0 i_X10_passes_15 ?_
      refine X_getR i_X10_passes_16 f_X10_43 rfl ?_
      refine Y_aload_0 i_X10_passes_19 ?_
      refine Y_getI i_X10_passes_20 f_X10_151 rfl (zg1 rfl (zg0 _ _ _ _ _)) ?_
      refine Y_aload_1 i_X10_passes_23 ?_
      refine Y_iload_2 i_X10_passes_24 ?_
      refine Y_iald i_X10_passes_25 rfl ⟨by omega, by omega⟩ rfl (zg0 _ _ _ _ _) ?_
      refine Y_iast i_X10_passes_26 rfl ⟨by omega, by omega⟩ rfl (zp1 rfl (zp0 _ _ _ _ _ _)) ?_
      refine X_goto i_X10_passes_27 (tgt := 42) rfl ?_
      refine Y_aload_0 i_X10_passes_42 ?_
      refine X_dup i_X10_passes_43 rfl ?_
      refine Y_getI i_X10_passes_44 f_X10_151 rfl (zg1 rfl (zga (zr1 rfl rfl))) ?_
      refine X_iconst i_X10_passes_47 ?_
      refine X_iadd i_X10_passes_48 ?_
      refine Y_putI i_X10_passes_49 f_X10_151 rfl t_7_22 (zp1 rfl (zp0 _ _ _ _ _ _)) ?_
      refine Y_iinc_2 i_X10_passes_52 rfl rfl ?_
      refine X_goto i_X10_passes_55 (tgt := 2) rfl ?_
      refine X_eq (ih (k + 1) _ (by omega) (zPa_1 hp (v := A 2 (k : Int)) (zsl_r A 2 (by omega) (by omega) (by omega)).symm (by omega))) (by simp) rfl rfl
  refine X_iconst i_X10_passes_0 ?_
  refine Y_istore_2 i_X10_passes_1 rfl rfl ?_
  exact loop 6 0 K0 (by omega) h
set_option maxRecDepth 100000 in
theorem c_X10_passG2 {M : zMem} {A B K K0 : zAft} {w : Int} (w0 : 0 ≤ w) (w1 : w ≤ 10) (hk : zKp K w B) (h : zGk w K K0 12) (hs : zGs B A 12) : zCt kX10_passes 0 [.ref 38, .ref 42] ((zs (zs M 13 K0) 3 A)) (fun o M9 => o = none ∧ ∃ K9 A9, zGk w K K9 18 ∧ zGs B A9 18 ∧ M9 = zs (zs M 13 K9) 3 A9) := by
  refine zMet (by decide) (Nat.le_of_ble_eq_true rfl) ?_
  show zX kX10_passes 0 0 [some (.ref 38), some (.ref 42), none] [] _ _
  have loop : ∀ (n : Nat) (k : Nat) (K1 A1 : zAft), k + n = 6 → zGk w K K1 (12 + k) → zGs B A1 (12 + k) → zX kX10_passes 0 2 [some (.ref 38), some (.ref 42), some (.int (zii k))] [] (zs (zs M 13 K1) 3 A1) (fun o M9 => o = none ∧ ∃ K9 A9, zGk w K K9 18 ∧ zGs B A9 18 ∧ M9 = zs (zs M 13 K9) 3 A9) := by
    intro n
    induction n with
    | zero =>
      intro k K1 A1 hg hp hq
      obtain rfl : k = 6 := by omega
      refine Y_iload_2 i_X10_passes_2 ?_
      refine Y_aload_1 i_X10_passes_3 ?_
      refine X_alen i_X10_passes_4 rfl (a := 6) (by decide +kernel) ?_
      refine X_icmp_ge i_X10_passes_5 (tgt := 58) rfl ⟨by omega, by omega⟩ ⟨by omega, by omega⟩ (fun h5 => ?_) (fun h5 => by exfalso; omega)
      refine X_vret i_X10_passes_58 rfl ?_
      exact ⟨rfl, K1, A1, hp, hq, rfl⟩
    | succ n ih =>
      intro k K1 A1 hg hp hq
      have hp2 := hp
      obtain ⟨p1, -, -, p4, p5⟩ := hp2
      have hv : K1 0 (K1 1 2) = zsl B (6 * ((2 : Nat) : Int) + (k : Int)) := by rw [p1, p5]; exact hk _ (by omega) (by omega)
      refine Y_iload_2 i_X10_passes_2 ?_
      refine Y_aload_1 i_X10_passes_3 ?_
      refine X_alen i_X10_passes_4 rfl (a := 6) (by decide +kernel) ?_
      refine X_icmp_ge i_X10_passes_5 (tgt := 58) rfl ⟨by omega, by omega⟩ ⟨by omega, by omega⟩ (fun h5 => by exfalso; omega) (fun h5 => ?_)
      refine Y_aload_0 i_X10_passes_8 ?_
      refine Y_getI i_X10_passes_9 f_X10_147 rfl (zg1 rfl (zg0 _ _ _ _ _)) ?_
      refine X_if_eq i_X10_passes_12 (tgt := 30) rfl ⟨by omega, by omega⟩ (fun h12 => ?_) (fun h12 => by exfalso; omega)
      refine Y_aload_1 i_X10_passes_30 ?_
      refine Y_iload_2 i_X10_passes_31 ?_
      refine Y_aload_0 i_X10_passes_32 ?_
      refine X_getR i_X10_passes_33 f_X10_43 rfl ?_
      refine Y_aload_0 i_X10_passes_36 ?_
      refine Y_getI i_X10_passes_37 f_X10_151 rfl (zg1 rfl (zg0 _ _ _ _ _)) ?_
      refine Y_iald i_X10_passes_40 rfl ⟨by omega, by omega⟩ rfl (zg1 rfl (zg0 _ _ _ _ _)) ?_
      refine Y_iast i_X10_passes_41 rfl ⟨by omega, by omega⟩ rfl (zp0 _ _ _ _ _ _) ?_
      refine Y_aload_0 i_X10_passes_42 ?_
      refine X_dup i_X10_passes_43 rfl ?_
      refine Y_getI i_X10_passes_44 f_X10_151 rfl (zg1 rfl (zg0 _ _ _ _ _)) ?_
      refine X_iconst i_X10_passes_47 ?_
      refine X_iadd i_X10_passes_48 ?_
      refine Y_putI i_X10_passes_49 f_X10_151 rfl t_7_22 (zp1 rfl (zp0 _ _ _ _ _ _)) ?_
      refine Y_iinc_2 i_X10_passes_52 rfl rfl ?_
      refine X_goto i_X10_passes_55 (tgt := 2) rfl ?_
      refine X_eq (ih (k + 1) _ _ (by omega) (zGk_1 hp) (zGs_w (r := 2) (i := (k : Int)) (by omega) (by omega) hq hv)) (by simp) rfl rfl
  refine X_iconst i_X10_passes_0 ?_
  refine Y_istore_2 i_X10_passes_1 rfl rfl ?_
  exact loop 6 0 K0 A (by omega) h hs
set_option maxRecDepth 100000 in
theorem c_X10_passK3 {M : zMem} {A K K0 : zAft} {w : Int} (w0 : 0 ≤ w) (w1 : w ≤ 10) (h : zPa w A K K0 18) : zCt kX10_passes 0 [.ref 38, .ref 43] ((zs (zs M 13 K0) 3 A)) (fun o M9 => o = none ∧ ∃ K9, zPa w A K K9 24 ∧ M9 = zs (zs M 13 K9) 3 A) := by
  refine zMet (by decide) (Nat.le_of_ble_eq_true rfl) ?_
  show zX kX10_passes 0 0 [some (.ref 38), some (.ref 43), none] [] _ _
  have loop : ∀ (n : Nat) (k : Nat) (K1 : zAft), k + n = 6 → zPa w A K K1 (18 + k) → zX kX10_passes 0 2 [some (.ref 38), some (.ref 43), some (.int (zii k))] [] (zs (zs M 13 K1) 3 A) (fun o M9 => o = none ∧ ∃ K9, zPa w A K K9 24 ∧ M9 = zs (zs M 13 K9) 3 A) := by
    intro n
    induction n with
    | zero =>
      intro k K1 hg hp
      obtain rfl : k = 6 := by omega
      refine Y_iload_2 i_X10_passes_2 ?_
      refine Y_aload_1 i_X10_passes_3 ?_
      refine X_alen i_X10_passes_4 rfl (a := 6) (by decide +kernel) ?_
      refine X_icmp_ge i_X10_passes_5 (tgt := 58) rfl ⟨by omega, by omega⟩ ⟨by omega, by omega⟩ (fun h5 => ?_) (fun h5 => by exfalso; omega)
      refine X_vret i_X10_passes_58 rfl ?_
      exact ⟨rfl, K1, hp, rfl⟩
    | succ n ih =>
      intro k K1 hg hp
      have hp2 := hp
      obtain ⟨-, -, p3, p4, -, -⟩ := hp2
      refine Y_iload_2 i_X10_passes_2 ?_
      refine Y_aload_1 i_X10_passes_3 ?_
      refine X_alen i_X10_passes_4 rfl (a := 6) (by decide +kernel) ?_
      refine X_icmp_ge i_X10_passes_5 (tgt := 58) rfl ⟨by omega, by omega⟩ ⟨by omega, by omega⟩ (fun h5 => by exfalso; omega) (fun h5 => ?_)
      refine Y_aload_0 i_X10_passes_8 ?_
      refine Y_getI i_X10_passes_9 f_X10_147 rfl (zg1 rfl (zg0 _ _ _ _ _)) ?_
      refine X_if_eq i_X10_passes_12 (tgt := 30) rfl ⟨by omega, by omega⟩ (fun h12 => by exfalso; omega) (fun h12 => ?_)
      refine Y_aload_0 i_X10_passes_15 ?_
      refine X_getR i_X10_passes_16 f_X10_43 rfl ?_
      refine Y_aload_0 i_X10_passes_19 ?_
      refine Y_getI i_X10_passes_20 f_X10_151 rfl (zg1 rfl (zg0 _ _ _ _ _)) ?_
      refine Y_aload_1 i_X10_passes_23 ?_
      refine Y_iload_2 i_X10_passes_24 ?_
      refine Y_iald i_X10_passes_25 rfl ⟨by omega, by omega⟩ rfl (zg0 _ _ _ _ _) ?_
      refine Y_iast i_X10_passes_26 rfl ⟨by omega, by omega⟩ rfl (zp1 rfl (zp0 _ _ _ _ _ _)) ?_
      refine X_goto i_X10_passes_27 (tgt := 42) rfl ?_
      refine Y_aload_0 i_X10_passes_42 ?_
      refine X_dup i_X10_passes_43 rfl ?_
      refine Y_getI i_X10_passes_44 f_X10_151 rfl (zg1 rfl (zga (zr1 rfl rfl))) ?_
      refine X_iconst i_X10_passes_47 ?_
      refine X_iadd i_X10_passes_48 ?_
      refine Y_putI i_X10_passes_49 f_X10_151 rfl t_7_22 (zp1 rfl (zp0 _ _ _ _ _ _)) ?_
      refine Y_iinc_2 i_X10_passes_52 rfl rfl ?_
      refine X_goto i_X10_passes_55 (tgt := 2) rfl ?_
      refine X_eq (ih (k + 1) _ (by omega) (zPa_1 hp (v := A 3 (k : Int)) (zsl_r A 3 (by omega) (by omega) (by omega)).symm (by omega))) (by simp) rfl rfl
  refine X_iconst i_X10_passes_0 ?_
  refine Y_istore_2 i_X10_passes_1 rfl rfl ?_
  exact loop 6 0 K0 (by omega) h
set_option maxRecDepth 100000 in
theorem c_X10_passG3 {M : zMem} {A B K K0 : zAft} {w : Int} (w0 : 0 ≤ w) (w1 : w ≤ 10) (hk : zKp K w B) (h : zGk w K K0 18) (hs : zGs B A 18) : zCt kX10_passes 0 [.ref 38, .ref 43] ((zs (zs M 13 K0) 3 A)) (fun o M9 => o = none ∧ ∃ K9 A9, zGk w K K9 24 ∧ zGs B A9 24 ∧ M9 = zs (zs M 13 K9) 3 A9) := by
  refine zMet (by decide) (Nat.le_of_ble_eq_true rfl) ?_
  show zX kX10_passes 0 0 [some (.ref 38), some (.ref 43), none] [] _ _
  have loop : ∀ (n : Nat) (k : Nat) (K1 A1 : zAft), k + n = 6 → zGk w K K1 (18 + k) → zGs B A1 (18 + k) → zX kX10_passes 0 2 [some (.ref 38), some (.ref 43), some (.int (zii k))] [] (zs (zs M 13 K1) 3 A1) (fun o M9 => o = none ∧ ∃ K9 A9, zGk w K K9 24 ∧ zGs B A9 24 ∧ M9 = zs (zs M 13 K9) 3 A9) := by
    intro n
    induction n with
    | zero =>
      intro k K1 A1 hg hp hq
      obtain rfl : k = 6 := by omega
      refine Y_iload_2 i_X10_passes_2 ?_
      refine Y_aload_1 i_X10_passes_3 ?_
      refine X_alen i_X10_passes_4 rfl (a := 6) (by decide +kernel) ?_
      refine X_icmp_ge i_X10_passes_5 (tgt := 58) rfl ⟨by omega, by omega⟩ ⟨by omega, by omega⟩ (fun h5 => ?_) (fun h5 => by exfalso; omega)
      refine X_vret i_X10_passes_58 rfl ?_
      exact ⟨rfl, K1, A1, hp, hq, rfl⟩
    | succ n ih =>
      intro k K1 A1 hg hp hq
      have hp2 := hp
      obtain ⟨p1, -, -, p4, p5⟩ := hp2
      have hv : K1 0 (K1 1 2) = zsl B (6 * ((3 : Nat) : Int) + (k : Int)) := by rw [p1, p5]; exact hk _ (by omega) (by omega)
      refine Y_iload_2 i_X10_passes_2 ?_
      refine Y_aload_1 i_X10_passes_3 ?_
      refine X_alen i_X10_passes_4 rfl (a := 6) (by decide +kernel) ?_
      refine X_icmp_ge i_X10_passes_5 (tgt := 58) rfl ⟨by omega, by omega⟩ ⟨by omega, by omega⟩ (fun h5 => by exfalso; omega) (fun h5 => ?_)
      refine Y_aload_0 i_X10_passes_8 ?_
      refine Y_getI i_X10_passes_9 f_X10_147 rfl (zg1 rfl (zg0 _ _ _ _ _)) ?_
      refine X_if_eq i_X10_passes_12 (tgt := 30) rfl ⟨by omega, by omega⟩ (fun h12 => ?_) (fun h12 => by exfalso; omega)
      refine Y_aload_1 i_X10_passes_30 ?_
      refine Y_iload_2 i_X10_passes_31 ?_
      refine Y_aload_0 i_X10_passes_32 ?_
      refine X_getR i_X10_passes_33 f_X10_43 rfl ?_
      refine Y_aload_0 i_X10_passes_36 ?_
      refine Y_getI i_X10_passes_37 f_X10_151 rfl (zg1 rfl (zg0 _ _ _ _ _)) ?_
      refine Y_iald i_X10_passes_40 rfl ⟨by omega, by omega⟩ rfl (zg1 rfl (zg0 _ _ _ _ _)) ?_
      refine Y_iast i_X10_passes_41 rfl ⟨by omega, by omega⟩ rfl (zp0 _ _ _ _ _ _) ?_
      refine Y_aload_0 i_X10_passes_42 ?_
      refine X_dup i_X10_passes_43 rfl ?_
      refine Y_getI i_X10_passes_44 f_X10_151 rfl (zg1 rfl (zg0 _ _ _ _ _)) ?_
      refine X_iconst i_X10_passes_47 ?_
      refine X_iadd i_X10_passes_48 ?_
      refine Y_putI i_X10_passes_49 f_X10_151 rfl t_7_22 (zp1 rfl (zp0 _ _ _ _ _ _)) ?_
      refine Y_iinc_2 i_X10_passes_52 rfl rfl ?_
      refine X_goto i_X10_passes_55 (tgt := 2) rfl ?_
      refine X_eq (ih (k + 1) _ _ (by omega) (zGk_1 hp) (zGs_w (r := 3) (i := (k : Int)) (by omega) (by omega) hq hv)) (by simp) rfl rfl
  refine X_iconst i_X10_passes_0 ?_
  refine Y_istore_2 i_X10_passes_1 rfl rfl ?_
  exact loop 6 0 K0 A (by omega) h hs
set_option maxRecDepth 100000 in
theorem c_X10_passK4 {M : zMem} {A K K0 : zAft} {w : Int} (w0 : 0 ≤ w) (w1 : w ≤ 10) (h : zPa w A K K0 24) : zCt kX10_passes 0 [.ref 38, .ref 44] ((zs (zs M 13 K0) 3 A)) (fun o M9 => o = none ∧ ∃ K9, zPa w A K K9 30 ∧ M9 = zs (zs M 13 K9) 3 A) := by
  refine zMet (by decide) (Nat.le_of_ble_eq_true rfl) ?_
  show zX kX10_passes 0 0 [some (.ref 38), some (.ref 44), none] [] _ _
  have loop : ∀ (n : Nat) (k : Nat) (K1 : zAft), k + n = 6 → zPa w A K K1 (24 + k) → zX kX10_passes 0 2 [some (.ref 38), some (.ref 44), some (.int (zii k))] [] (zs (zs M 13 K1) 3 A) (fun o M9 => o = none ∧ ∃ K9, zPa w A K K9 30 ∧ M9 = zs (zs M 13 K9) 3 A) := by
    intro n
    induction n with
    | zero =>
      intro k K1 hg hp
      obtain rfl : k = 6 := by omega
      refine Y_iload_2 i_X10_passes_2 ?_
      refine Y_aload_1 i_X10_passes_3 ?_
      refine X_alen i_X10_passes_4 rfl (a := 6) (by decide +kernel) ?_
      refine X_icmp_ge i_X10_passes_5 (tgt := 58) rfl ⟨by omega, by omega⟩ ⟨by omega, by omega⟩ (fun h5 => ?_) (fun h5 => by exfalso; omega)
      refine X_vret i_X10_passes_58 rfl ?_
      exact ⟨rfl, K1, hp, rfl⟩
    | succ n ih =>
      intro k K1 hg hp
      have hp2 := hp
      obtain ⟨-, -, p3, p4, -, -⟩ := hp2
      refine Y_iload_2 i_X10_passes_2 ?_
      refine Y_aload_1 i_X10_passes_3 ?_
      refine X_alen i_X10_passes_4 rfl (a := 6) (by decide +kernel) ?_
      refine X_icmp_ge i_X10_passes_5 (tgt := 58) rfl ⟨by omega, by omega⟩ ⟨by omega, by omega⟩ (fun h5 => by exfalso; omega) (fun h5 => ?_)
      refine Y_aload_0 i_X10_passes_8 ?_
      refine Y_getI i_X10_passes_9 f_X10_147 rfl (zg1 rfl (zg0 _ _ _ _ _)) ?_
      refine X_if_eq i_X10_passes_12 (tgt := 30) rfl ⟨by omega, by omega⟩ (fun h12 => by exfalso; omega) (fun h12 => ?_)
      refine Y_aload_0 i_X10_passes_15 ?_
      refine X_getR i_X10_passes_16 f_X10_43 rfl ?_
      refine Y_aload_0 i_X10_passes_19 ?_
      refine Y_getI i_X10_passes_20 f_X10_151 rfl (zg1 rfl (zg0 _ _ _ _ _)) ?_
      refine Y_aload_1 i_X10_passes_23 ?_
      refine Y_iload_2 i_X10_passes_24 ?_
      refine Y_iald i_X10_passes_25 rfl ⟨by omega, by omega⟩ rfl (zg0 _ _ _ _ _) ?_
      refine Y_iast i_X10_passes_26 rfl ⟨by omega, by omega⟩ rfl (zp1 rfl (zp0 _ _ _ _ _ _)) ?_
      refine X_goto i_X10_passes_27 (tgt := 42) rfl ?_
      refine Y_aload_0 i_X10_passes_42 ?_
      refine X_dup i_X10_passes_43 rfl ?_
      refine Y_getI i_X10_passes_44 f_X10_151 rfl (zg1 rfl (zga (zr1 rfl rfl))) ?_
      refine X_iconst i_X10_passes_47 ?_
      refine X_iadd i_X10_passes_48 ?_
      refine Y_putI i_X10_passes_49 f_X10_151 rfl t_7_22 (zp1 rfl (zp0 _ _ _ _ _ _)) ?_
      refine Y_iinc_2 i_X10_passes_52 rfl rfl ?_
      refine X_goto i_X10_passes_55 (tgt := 2) rfl ?_
      refine X_eq (ih (k + 1) _ (by omega) (zPa_1 hp (v := A 4 (k : Int)) (zsl_r A 4 (by omega) (by omega) (by omega)).symm (by omega))) (by simp) rfl rfl
  refine X_iconst i_X10_passes_0 ?_
  refine Y_istore_2 i_X10_passes_1 rfl rfl ?_
  exact loop 6 0 K0 (by omega) h
set_option maxRecDepth 100000 in
theorem c_X10_passG4 {M : zMem} {A B K K0 : zAft} {w : Int} (w0 : 0 ≤ w) (w1 : w ≤ 10) (hk : zKp K w B) (h : zGk w K K0 24) (hs : zGs B A 24) : zCt kX10_passes 0 [.ref 38, .ref 44] ((zs (zs M 13 K0) 3 A)) (fun o M9 => o = none ∧ ∃ K9 A9, zGk w K K9 30 ∧ zGs B A9 30 ∧ M9 = zs (zs M 13 K9) 3 A9) := by
  refine zMet (by decide) (Nat.le_of_ble_eq_true rfl) ?_
  show zX kX10_passes 0 0 [some (.ref 38), some (.ref 44), none] [] _ _
  have loop : ∀ (n : Nat) (k : Nat) (K1 A1 : zAft), k + n = 6 → zGk w K K1 (24 + k) → zGs B A1 (24 + k) → zX kX10_passes 0 2 [some (.ref 38), some (.ref 44), some (.int (zii k))] [] (zs (zs M 13 K1) 3 A1) (fun o M9 => o = none ∧ ∃ K9 A9, zGk w K K9 30 ∧ zGs B A9 30 ∧ M9 = zs (zs M 13 K9) 3 A9) := by
    intro n
    induction n with
    | zero =>
      intro k K1 A1 hg hp hq
      obtain rfl : k = 6 := by omega
      refine Y_iload_2 i_X10_passes_2 ?_
      refine Y_aload_1 i_X10_passes_3 ?_
      refine X_alen i_X10_passes_4 rfl (a := 6) (by decide +kernel) ?_
      refine X_icmp_ge i_X10_passes_5 (tgt := 58) rfl ⟨by omega, by omega⟩ ⟨by omega, by omega⟩ (fun h5 => ?_) (fun h5 => by exfalso; omega)
      refine X_vret i_X10_passes_58 rfl ?_
      exact ⟨rfl, K1, A1, hp, hq, rfl⟩
    | succ n ih =>
      intro k K1 A1 hg hp hq
      have hp2 := hp
      obtain ⟨p1, -, -, p4, p5⟩ := hp2
      have hv : K1 0 (K1 1 2) = zsl B (6 * ((4 : Nat) : Int) + (k : Int)) := by rw [p1, p5]; exact hk _ (by omega) (by omega)
      refine Y_iload_2 i_X10_passes_2 ?_
      refine Y_aload_1 i_X10_passes_3 ?_
      refine X_alen i_X10_passes_4 rfl (a := 6) (by decide +kernel) ?_
      refine X_icmp_ge i_X10_passes_5 (tgt := 58) rfl ⟨by omega, by omega⟩ ⟨by omega, by omega⟩ (fun h5 => by exfalso; omega) (fun h5 => ?_)
      refine Y_aload_0 i_X10_passes_8 ?_
      refine Y_getI i_X10_passes_9 f_X10_147 rfl (zg1 rfl (zg0 _ _ _ _ _)) ?_
      refine X_if_eq i_X10_passes_12 (tgt := 30) rfl ⟨by omega, by omega⟩ (fun h12 => ?_) (fun h12 => by exfalso; omega)
      refine Y_aload_1 i_X10_passes_30 ?_
      refine Y_iload_2 i_X10_passes_31 ?_
      refine Y_aload_0 i_X10_passes_32 ?_
      refine X_getR i_X10_passes_33 f_X10_43 rfl ?_
      refine Y_aload_0 i_X10_passes_36 ?_
      refine Y_getI i_X10_passes_37 f_X10_151 rfl (zg1 rfl (zg0 _ _ _ _ _)) ?_
      refine Y_iald i_X10_passes_40 rfl ⟨by omega, by omega⟩ rfl (zg1 rfl (zg0 _ _ _ _ _)) ?_
      refine Y_iast i_X10_passes_41 rfl ⟨by omega, by omega⟩ rfl (zp0 _ _ _ _ _ _) ?_
      refine Y_aload_0 i_X10_passes_42 ?_
      refine X_dup i_X10_passes_43 rfl ?_
      refine Y_getI i_X10_passes_44 f_X10_151 rfl (zg1 rfl (zg0 _ _ _ _ _)) ?_
      refine X_iconst i_X10_passes_47 ?_
      refine X_iadd i_X10_passes_48 ?_
      refine Y_putI i_X10_passes_49 f_X10_151 rfl t_7_22 (zp1 rfl (zp0 _ _ _ _ _ _)) ?_
      refine Y_iinc_2 i_X10_passes_52 rfl rfl ?_
      refine X_goto i_X10_passes_55 (tgt := 2) rfl ?_
      refine X_eq (ih (k + 1) _ _ (by omega) (zGk_1 hp) (zGs_w (r := 4) (i := (k : Int)) (by omega) (by omega) hq hv)) (by simp) rfl rfl
  refine X_iconst i_X10_passes_0 ?_
  refine Y_istore_2 i_X10_passes_1 rfl rfl ?_
  exact loop 6 0 K0 A (by omega) h hs
set_option maxRecDepth 100000 in
theorem c_X10_passK5 {M : zMem} {A K K0 : zAft} {w : Int} (w0 : 0 ≤ w) (w1 : w ≤ 10) (h : zPa w A K K0 30) : zCt kX10_passes 0 [.ref 38, .ref 45] ((zs (zs M 13 K0) 3 A)) (fun o M9 => o = none ∧ ∃ K9, zPa w A K K9 36 ∧ M9 = zs (zs M 13 K9) 3 A) := by
  refine zMet (by decide) (Nat.le_of_ble_eq_true rfl) ?_
  show zX kX10_passes 0 0 [some (.ref 38), some (.ref 45), none] [] _ _
  have loop : ∀ (n : Nat) (k : Nat) (K1 : zAft), k + n = 6 → zPa w A K K1 (30 + k) → zX kX10_passes 0 2 [some (.ref 38), some (.ref 45), some (.int (zii k))] [] (zs (zs M 13 K1) 3 A) (fun o M9 => o = none ∧ ∃ K9, zPa w A K K9 36 ∧ M9 = zs (zs M 13 K9) 3 A) := by
    intro n
    induction n with
    | zero =>
      intro k K1 hg hp
      obtain rfl : k = 6 := by omega
      refine Y_iload_2 i_X10_passes_2 ?_
      refine Y_aload_1 i_X10_passes_3 ?_
      refine X_alen i_X10_passes_4 rfl (a := 6) (by decide +kernel) ?_
      refine X_icmp_ge i_X10_passes_5 (tgt := 58) rfl ⟨by omega, by omega⟩ ⟨by omega, by omega⟩ (fun h5 => ?_) (fun h5 => by exfalso; omega)
      refine X_vret i_X10_passes_58 rfl ?_
      exact ⟨rfl, K1, hp, rfl⟩
    | succ n ih =>
      intro k K1 hg hp
      have hp2 := hp
      obtain ⟨-, -, p3, p4, -, -⟩ := hp2
      refine Y_iload_2 i_X10_passes_2 ?_
      refine Y_aload_1 i_X10_passes_3 ?_
      refine X_alen i_X10_passes_4 rfl (a := 6) (by decide +kernel) ?_
      refine X_icmp_ge i_X10_passes_5 (tgt := 58) rfl ⟨by omega, by omega⟩ ⟨by omega, by omega⟩ (fun h5 => by exfalso; omega) (fun h5 => ?_)
      refine Y_aload_0 i_X10_passes_8 ?_
      refine Y_getI i_X10_passes_9 f_X10_147 rfl (zg1 rfl (zg0 _ _ _ _ _)) ?_
      refine X_if_eq i_X10_passes_12 (tgt := 30) rfl ⟨by omega, by omega⟩ (fun h12 => by exfalso; omega) (fun h12 => ?_)
      refine Y_aload_0 i_X10_passes_15 ?_
      refine X_getR i_X10_passes_16 f_X10_43 rfl ?_
      refine Y_aload_0 i_X10_passes_19 ?_
      refine Y_getI i_X10_passes_20 f_X10_151 rfl (zg1 rfl (zg0 _ _ _ _ _)) ?_
      refine Y_aload_1 i_X10_passes_23 ?_
      refine Y_iload_2 i_X10_passes_24 ?_
      refine Y_iald i_X10_passes_25 rfl ⟨by omega, by omega⟩ rfl (zg0 _ _ _ _ _) ?_
      refine Y_iast i_X10_passes_26 rfl ⟨by omega, by omega⟩ rfl (zp1 rfl (zp0 _ _ _ _ _ _)) ?_
      refine X_goto i_X10_passes_27 (tgt := 42) rfl ?_
      refine Y_aload_0 i_X10_passes_42 ?_
      refine X_dup i_X10_passes_43 rfl ?_
      refine Y_getI i_X10_passes_44 f_X10_151 rfl (zg1 rfl (zga (zr1 rfl rfl))) ?_
      refine X_iconst i_X10_passes_47 ?_
      refine X_iadd i_X10_passes_48 ?_
      refine Y_putI i_X10_passes_49 f_X10_151 rfl t_7_22 (zp1 rfl (zp0 _ _ _ _ _ _)) ?_
      refine Y_iinc_2 i_X10_passes_52 rfl rfl ?_
      refine X_goto i_X10_passes_55 (tgt := 2) rfl ?_
      refine X_eq (ih (k + 1) _ (by omega) (zPa_1 hp (v := A 5 (k : Int)) (zsl_r A 5 (by omega) (by omega) (by omega)).symm (by omega))) (by simp) rfl rfl
  refine X_iconst i_X10_passes_0 ?_
  refine Y_istore_2 i_X10_passes_1 rfl rfl ?_
  exact loop 6 0 K0 (by omega) h
set_option maxRecDepth 100000 in
theorem c_X10_passG5 {M : zMem} {A B K K0 : zAft} {w : Int} (w0 : 0 ≤ w) (w1 : w ≤ 10) (hk : zKp K w B) (h : zGk w K K0 30) (hs : zGs B A 30) : zCt kX10_passes 0 [.ref 38, .ref 45] ((zs (zs M 13 K0) 3 A)) (fun o M9 => o = none ∧ ∃ K9 A9, zGk w K K9 36 ∧ zGs B A9 36 ∧ M9 = zs (zs M 13 K9) 3 A9) := by
  refine zMet (by decide) (Nat.le_of_ble_eq_true rfl) ?_
  show zX kX10_passes 0 0 [some (.ref 38), some (.ref 45), none] [] _ _
  have loop : ∀ (n : Nat) (k : Nat) (K1 A1 : zAft), k + n = 6 → zGk w K K1 (30 + k) → zGs B A1 (30 + k) → zX kX10_passes 0 2 [some (.ref 38), some (.ref 45), some (.int (zii k))] [] (zs (zs M 13 K1) 3 A1) (fun o M9 => o = none ∧ ∃ K9 A9, zGk w K K9 36 ∧ zGs B A9 36 ∧ M9 = zs (zs M 13 K9) 3 A9) := by
    intro n
    induction n with
    | zero =>
      intro k K1 A1 hg hp hq
      obtain rfl : k = 6 := by omega
      refine Y_iload_2 i_X10_passes_2 ?_
      refine Y_aload_1 i_X10_passes_3 ?_
      refine X_alen i_X10_passes_4 rfl (a := 6) (by decide +kernel) ?_
      refine X_icmp_ge i_X10_passes_5 (tgt := 58) rfl ⟨by omega, by omega⟩ ⟨by omega, by omega⟩ (fun h5 => ?_) (fun h5 => by exfalso; omega)
      refine X_vret i_X10_passes_58 rfl ?_
      exact ⟨rfl, K1, A1, hp, hq, rfl⟩
    | succ n ih =>
      intro k K1 A1 hg hp hq
      have hp2 := hp
      obtain ⟨p1, -, -, p4, p5⟩ := hp2
      have hv : K1 0 (K1 1 2) = zsl B (6 * ((5 : Nat) : Int) + (k : Int)) := by rw [p1, p5]; exact hk _ (by omega) (by omega)
      refine Y_iload_2 i_X10_passes_2 ?_
      refine Y_aload_1 i_X10_passes_3 ?_
      refine X_alen i_X10_passes_4 rfl (a := 6) (by decide +kernel) ?_
      refine X_icmp_ge i_X10_passes_5 (tgt := 58) rfl ⟨by omega, by omega⟩ ⟨by omega, by omega⟩ (fun h5 => by exfalso; omega) (fun h5 => ?_)
      refine Y_aload_0 i_X10_passes_8 ?_
      refine Y_getI i_X10_passes_9 f_X10_147 rfl (zg1 rfl (zg0 _ _ _ _ _)) ?_
      refine X_if_eq i_X10_passes_12 (tgt := 30) rfl ⟨by omega, by omega⟩ (fun h12 => ?_) (fun h12 => by exfalso; omega)
      refine Y_aload_1 i_X10_passes_30 ?_
      refine Y_iload_2 i_X10_passes_31 ?_
      refine Y_aload_0 i_X10_passes_32 ?_
      refine X_getR i_X10_passes_33 f_X10_43 rfl ?_
      refine Y_aload_0 i_X10_passes_36 ?_
      refine Y_getI i_X10_passes_37 f_X10_151 rfl (zg1 rfl (zg0 _ _ _ _ _)) ?_
      refine Y_iald i_X10_passes_40 rfl ⟨by omega, by omega⟩ rfl (zg1 rfl (zg0 _ _ _ _ _)) ?_
      refine Y_iast i_X10_passes_41 rfl ⟨by omega, by omega⟩ rfl (zp0 _ _ _ _ _ _) ?_
      refine Y_aload_0 i_X10_passes_42 ?_
      refine X_dup i_X10_passes_43 rfl ?_
      refine Y_getI i_X10_passes_44 f_X10_151 rfl (zg1 rfl (zg0 _ _ _ _ _)) ?_
      refine X_iconst i_X10_passes_47 ?_
      refine X_iadd i_X10_passes_48 ?_
      refine Y_putI i_X10_passes_49 f_X10_151 rfl t_7_22 (zp1 rfl (zp0 _ _ _ _ _ _)) ?_
      refine Y_iinc_2 i_X10_passes_52 rfl rfl ?_
      refine X_goto i_X10_passes_55 (tgt := 2) rfl ?_
      refine X_eq (ih (k + 1) _ _ (by omega) (zGk_1 hp) (zGs_w (r := 5) (i := (k : Int)) (by omega) (by omega) hq hv)) (by simp) rfl rfl
  refine X_iconst i_X10_passes_0 ?_
  refine Y_istore_2 i_X10_passes_1 rfl rfl ?_
  exact loop 6 0 K0 A (by omega) h hs
set_option maxRecDepth 100000 in
theorem c_X10_oneK {M : zMem} {A K K0 : zAft} {w n v : Int} (w0 : 0 ≤ w) (w1 : w ≤ 10) (n0 : 0 ≤ n) (n1 : n < 42) (h : zPa w A K K0 n) (hv : v = zsl A n) : zCt kX10_passOne 0 [.ref 38, .int (zii v)] ((zs (zs M 13 K0) 3 A)) (fun o M9 => o = some (.int (zii v)) ∧ ∃ K9, zPa w A K K9 (n + 1) ∧ M9 = zs (zs M 13 K9) 3 A) := by
  have hp2 := h
  obtain ⟨-, -, p3, p4, -, -⟩ := hp2
  refine zMet (by decide) (Nat.le_of_ble_eq_true rfl) ?_
  show zX kX10_passOne 0 0 [some (.ref 38), some (.int (zii v)), none] [] _ _
  refine Y_aload_0 i_X10_passOne_0 ?_
  refine Y_getI i_X10_passOne_1 f_X10_147 rfl (zg1 rfl (zg0 _ _ _ _ _)) ?_
  refine X_if_eq i_X10_passOne_4 (tgt := 11) rfl ⟨by omega, by omega⟩ (fun h4 => by exfalso; omega) (fun h4 => ?_)
  refine Y_iload_1 i_X10_passOne_7 ?_
  refine X_goto i_X10_passOne_8 (tgt := 20) rfl ?_
  refine Y_istore_2 i_X10_passOne_20 rfl rfl ?_
  refine Y_aload_0 i_X10_passOne_21 ?_
  refine Y_getI i_X10_passOne_22 f_X10_147 rfl (zg1 rfl (zg0 _ _ _ _ _)) ?_
  refine X_if_eq i_X10_passOne_25 (tgt := 38) rfl ⟨by omega, by omega⟩ (fun h25 => by exfalso; omega) (fun h25 => ?_)
  refine Y_aload_0 i_X10_passOne_28 ?_
  refine X_getR i_X10_passOne_29 f_X10_43 rfl ?_
  refine Y_aload_0 i_X10_passOne_32 ?_
  refine Y_getI i_X10_passOne_33 f_X10_151 rfl (zg1 rfl (zg0 _ _ _ _ _)) ?_
  refine Y_iload_1 i_X10_passOne_36 ?_
  refine Y_iast i_X10_passOne_37 rfl ⟨by omega, by omega⟩ rfl (zp1 rfl (zp0 _ _ _ _ _ _)) ?_
  refine Y_aload_0 i_X10_passOne_38 ?_
  refine X_dup i_X10_passOne_39 rfl ?_
  refine Y_getI i_X10_passOne_40 f_X10_151 rfl (zg1 rfl (zga (zr1 rfl rfl))) ?_
  refine X_iconst i_X10_passOne_43 ?_
  refine X_iadd i_X10_passOne_44 ?_
  refine Y_putI i_X10_passOne_45 f_X10_151 rfl t_7_22 (zp1 rfl (zp0 _ _ _ _ _ _)) ?_
  refine Y_iload_2 i_X10_passOne_48 ?_
  refine X_iret i_X10_passOne_49 rfl ?_
  exact ⟨rfl, _, zPa_1 h hv n0, rfl⟩
set_option maxRecDepth 100000 in
theorem c_X10_oneG {M : zMem} {A B K K0 : zAft} {w n v : Int} (w0 : 0 ≤ w) (w1 : w ≤ 10) (n0 : 0 ≤ n) (n1 : n < 41) (hk : zKp K w B) (h : zGk w K K0 n) : zCt kX10_passOne 0 [.ref 38, .int (zii v)] ((zs (zs M 13 K0) 3 A)) (fun o M9 => o = some (.int (zii (zsl B n))) ∧ ∃ K9, zGk w K K9 (n + 1) ∧ M9 = zs (zs M 13 K9) 3 A) := by
  have hp2 := h
  obtain ⟨p1, -, -, p4, p5⟩ := hp2
  have hv : K0 0 (K0 1 2) = zsl B n := by rw [p1, p5]; exact hk _ n0 n1
  refine zMet (by decide) (Nat.le_of_ble_eq_true rfl) ?_
  show zX kX10_passOne 0 0 [some (.ref 38), some (.int (zii v)), none] [] _ _
  refine Y_aload_0 i_X10_passOne_0 ?_
  refine Y_getI i_X10_passOne_1 f_X10_147 rfl (zg1 rfl (zg0 _ _ _ _ _)) ?_
  refine X_if_eq i_X10_passOne_4 (tgt := 11) rfl ⟨by omega, by omega⟩ (fun h4 => ?_) (fun h4 => by exfalso; omega)
  refine Y_aload_0 i_X10_passOne_11 ?_
  refine X_getR i_X10_passOne_12 f_X10_43 rfl ?_
  refine Y_aload_0 i_X10_passOne_15 ?_
  refine Y_getI i_X10_passOne_16 f_X10_151 rfl (zg1 rfl (zg0 _ _ _ _ _)) ?_
  refine Y_iald i_X10_passOne_19 rfl ⟨by omega, by omega⟩ rfl (zg1 rfl (zg0 _ _ _ _ _)) ?_
  refine Y_istore_2 i_X10_passOne_20 rfl rfl ?_
  refine Y_aload_0 i_X10_passOne_21 ?_
  refine Y_getI i_X10_passOne_22 f_X10_147 rfl (zg1 rfl (zg0 _ _ _ _ _)) ?_
  refine X_if_eq i_X10_passOne_25 (tgt := 38) rfl ⟨by omega, by omega⟩ (fun h25 => ?_) (fun h25 => by exfalso; omega)
  refine Y_aload_0 i_X10_passOne_38 ?_
  refine X_dup i_X10_passOne_39 rfl ?_
  refine Y_getI i_X10_passOne_40 f_X10_151 rfl (zg1 rfl (zg0 _ _ _ _ _)) ?_
  refine X_iconst i_X10_passOne_43 ?_
  refine X_iadd i_X10_passOne_44 ?_
  refine Y_putI i_X10_passOne_45 f_X10_151 rfl t_7_22 (zp1 rfl (zp0 _ _ _ _ _ _)) ?_
  refine Y_iload_2 i_X10_passOne_48 ?_
  refine X_iret i_X10_passOne_49 rfl ?_
  exact ⟨by rw [hv], _, zGk_1 h, rfl⟩
set_option maxRecDepth 100000 in
theorem c_X10_keepAll {M : zMem} {A K : zAft} {w : Int} (w0 : 0 ≤ w) (w1 : w ≤ 10) : zCt kX10_passesAll 1 [.ref 38, .int (zii w), .int (zii 1)] ((zs (zs M 13 K) 3 A)) (fun o M9 => o = none ∧ ∃ K9, (zKp K9 w A ∧ (∀ i : Int, i < 42 * w ∨ 42 * w + 42 ≤ i → K9 0 i = K 0 i) ∧ K9 1 0 = K 1 0 ∧ K9 1 3 = K 1 3) ∧ M9 = zs (zs M 13 K9) 3 A) := by
  refine zMet (by decide) (Nat.le_of_ble_eq_true rfl) ?_
  show zX kX10_passesAll 1 0 [some (.ref 38), some (.int (zii w)), some (.int (zii 1))] [] _ _
  refine Y_aload_0 i_X10_passesAll_0 ?_
  refine X_bipush i_X10_passesAll_1 (by decide +kernel) ?_
  refine Y_iload_1 i_X10_passesAll_3 ?_
  refine X_imul i_X10_passesAll_4 ?_
  refine Y_putI i_X10_passesAll_5 f_X10_151 rfl t_7_22 (zp1 rfl (zp0 _ _ _ _ _ _)) ?_
  refine Y_aload_0 i_X10_passesAll_8 ?_
  refine Y_iload_2 i_X10_passesAll_9 ?_
  refine Y_putZ i_X10_passesAll_10 f_X10_147 rfl t_7_21 (by omega) (zp1 rfl (zp0 _ _ _ _ _ _)) ?_
  have p0 : zPa w A K (zwr (zwr K 1 2 (42 * w)) 1 1 1) 0 := ⟨fun x x0 x1 => by omega, fun i _ => by rw [zwr_row rfl, zwr_row rfl], by rw [zr2 (by decide) rfl, zr0]; omega, by rw [zr0], by rw [zr2 (by decide) rfl, zr2 (by decide) rfl], by rw [zr2 (by decide) rfl, zr2 (by decide) rfl]⟩
  refine Y_aload_0 i_X10_passesAll_13 ?_
  refine Y_aload_0 i_X10_passesAll_14 ?_
  refine X_getR i_X10_passesAll_15 f_X10_13 rfl ?_
  refine Y_callVq (k' := kX10_passes) i_X10_passesAll_18 l_X10_154 m_X10_passes (c_X10_passK0 w0 w1 p0) rfl rfl rfl rfl rfl ?_
  intro r9 M9 hr9
  obtain ⟨rfl, K6, p6, rfl⟩ := hr9
  change zX _ _ _ _ [] _ _
  refine Y_aload_0 i_X10_passesAll_21 ?_
  refine Y_aload_0 i_X10_passesAll_22 ?_
  refine X_getR i_X10_passesAll_23 f_X10_16 rfl ?_
  refine Y_callVq (k' := kX10_passes) i_X10_passesAll_26 l_X10_154 m_X10_passes (c_X10_passK1 w0 w1 p6) rfl rfl rfl rfl rfl ?_
  intro r9 M9 hr9
  obtain ⟨rfl, K12, p12, rfl⟩ := hr9
  change zX _ _ _ _ [] _ _
  refine Y_aload_0 i_X10_passesAll_29 ?_
  refine Y_aload_0 i_X10_passesAll_30 ?_
  refine X_getR i_X10_passesAll_31 f_X10_19 rfl ?_
  refine Y_callVq (k' := kX10_passes) i_X10_passesAll_34 l_X10_154 m_X10_passes (c_X10_passK2 w0 w1 p12) rfl rfl rfl rfl rfl ?_
  intro r9 M9 hr9
  obtain ⟨rfl, K18, p18, rfl⟩ := hr9
  change zX _ _ _ _ [] _ _
  refine Y_aload_0 i_X10_passesAll_37 ?_
  refine Y_aload_0 i_X10_passesAll_38 ?_
  refine X_getR i_X10_passesAll_39 f_X10_22 rfl ?_
  refine Y_callVq (k' := kX10_passes) i_X10_passesAll_42 l_X10_154 m_X10_passes (c_X10_passK3 w0 w1 p18) rfl rfl rfl rfl rfl ?_
  intro r9 M9 hr9
  obtain ⟨rfl, K24, p24, rfl⟩ := hr9
  change zX _ _ _ _ [] _ _
  refine Y_aload_0 i_X10_passesAll_45 ?_
  refine Y_aload_0 i_X10_passesAll_46 ?_
  refine X_getR i_X10_passesAll_47 f_X10_25 rfl ?_
  refine Y_callVq (k' := kX10_passes) i_X10_passesAll_50 l_X10_154 m_X10_passes (c_X10_passK4 w0 w1 p24) rfl rfl rfl rfl rfl ?_
  intro r9 M9 hr9
  obtain ⟨rfl, K30, p30, rfl⟩ := hr9
  change zX _ _ _ _ [] _ _
  refine Y_aload_0 i_X10_passesAll_53 ?_
  refine Y_aload_0 i_X10_passesAll_54 ?_
  refine X_getR i_X10_passesAll_55 f_X10_28 rfl ?_
  refine Y_callVq (k' := kX10_passes) i_X10_passesAll_58 l_X10_154 m_X10_passes (c_X10_passK5 w0 w1 p30) rfl rfl rfl rfl rfl ?_
  intro r9 M9 hr9
  obtain ⟨rfl, K36, p36, rfl⟩ := hr9
  change zX _ _ _ _ [] _ _
  refine Y_aload_0 i_X10_passesAll_61 ?_
  refine Y_aload_0 i_X10_passesAll_62 ?_
  refine Y_aload_0 i_X10_passesAll_63 ?_
  refine Y_getI i_X10_passesAll_64 f_X10_65 rfl (zg0 _ _ _ _ _) ?_
  refine Y_callVq (k' := kX10_passOne) i_X10_passesAll_67 l_X10_158 m_X10_passOne (c_X10_oneK (n := 36) (v := A 6 0) w0 w1 (by omega) (by omega) p36 (zsl_6 A (i := 0) (by omega)).symm) rfl rfl rfl rfl rfl ?_
  intro r9 M9 hr9
  obtain ⟨rfl, K37, p37, rfl⟩ := hr9
  change zX _ _ _ _ (.int _ :: .ref 38 :: []) _ _
  refine Y_putI i_X10_passesAll_70 f_X10_65 rfl t_7_7 (zp0 _ _ _ _ _ _) ?_
  rw [zwr_id A]
  refine Y_aload_0 i_X10_passesAll_73 ?_
  refine Y_aload_0 i_X10_passesAll_74 ?_
  refine Y_aload_0 i_X10_passesAll_75 ?_
  refine Y_getI i_X10_passesAll_76 f_X10_58 rfl (zg0 _ _ _ _ _) ?_
  refine Y_callVq (k' := kX10_passOne) i_X10_passesAll_79 l_X10_158 m_X10_passOne (c_X10_oneK (n := 37) (v := A 6 1) w0 w1 (by omega) (by omega) p37 (zsl_6 A (i := 1) (by omega)).symm) rfl rfl rfl rfl rfl ?_
  intro r9 M9 hr9
  obtain ⟨rfl, K38, p38, rfl⟩ := hr9
  change zX _ _ _ _ (.int _ :: .ref 38 :: []) _ _
  refine Y_putI i_X10_passesAll_82 f_X10_58 rfl t_7_8 (zp0 _ _ _ _ _ _) ?_
  rw [zwr_id A]
  refine Y_aload_0 i_X10_passesAll_85 ?_
  refine Y_aload_0 i_X10_passesAll_86 ?_
  refine Y_aload_0 i_X10_passesAll_87 ?_
  refine Y_getI i_X10_passesAll_88 f_X10_124 rfl (zg0 _ _ _ _ _) ?_
  refine Y_callVq (k' := kX10_passOne) i_X10_passesAll_91 l_X10_158 m_X10_passOne (c_X10_oneK (n := 38) (v := A 6 2) w0 w1 (by omega) (by omega) p38 (zsl_6 A (i := 2) (by omega)).symm) rfl rfl rfl rfl rfl ?_
  intro r9 M9 hr9
  obtain ⟨rfl, K39, p39, rfl⟩ := hr9
  change zX _ _ _ _ (.int _ :: .ref 38 :: []) _ _
  refine Y_putI i_X10_passesAll_94 f_X10_124 rfl t_7_9 (zp0 _ _ _ _ _ _) ?_
  rw [zwr_id A]
  refine Y_aload_0 i_X10_passesAll_97 ?_
  refine Y_aload_0 i_X10_passesAll_98 ?_
  refine Y_aload_0 i_X10_passesAll_99 ?_
  refine Y_getI i_X10_passesAll_100 f_X10_104 rfl (zg0 _ _ _ _ _) ?_
  refine Y_callVq (k' := kX10_passOne) i_X10_passesAll_103 l_X10_158 m_X10_passOne (c_X10_oneK (n := 39) (v := A 6 3) w0 w1 (by omega) (by omega) p39 (zsl_6 A (i := 3) (by omega)).symm) rfl rfl rfl rfl rfl ?_
  intro r9 M9 hr9
  obtain ⟨rfl, K40, p40, rfl⟩ := hr9
  change zX _ _ _ _ (.int _ :: .ref 38 :: []) _ _
  refine Y_putI i_X10_passesAll_106 f_X10_104 rfl t_7_10 (zp0 _ _ _ _ _ _) ?_
  rw [zwr_id A]
  refine Y_aload_0 i_X10_passesAll_109 ?_
  refine Y_aload_0 i_X10_passesAll_110 ?_
  refine Y_aload_0 i_X10_passesAll_111 ?_
  refine Y_getI i_X10_passesAll_112 f_X10_161 rfl (zg0 _ _ _ _ _) ?_
  refine Y_callVq (k' := kX10_passOne) i_X10_passesAll_115 l_X10_158 m_X10_passOne (c_X10_oneK (n := 40) (v := A 6 4) w0 w1 (by omega) (by omega) p40 (zsl_6 A (i := 4) (by omega)).symm) rfl rfl rfl rfl rfl ?_
  intro r9 M9 hr9
  obtain ⟨rfl, K41, p41, rfl⟩ := hr9
  change zX _ _ _ _ (.int _ :: .ref 38 :: []) _ _
  refine Y_putI i_X10_passesAll_118 f_X10_161 rfl t_7_11 (zp0 _ _ _ _ _ _) ?_
  rw [zwr_id A]
  refine X_vret i_X10_passesAll_121 rfl ?_
  exact ⟨rfl, K41, ⟨p41.1, fun i hi => p41.2.1 i (by omega), p41.2.2.2.2.1, p41.2.2.2.2.2⟩, rfl⟩
set_option maxRecDepth 100000 in
theorem c_X10_getAll {M : zMem} {A B K : zAft} {w : Int} (w0 : 0 ≤ w) (w1 : w ≤ 10) (hk : zKp K w B) : zCt kX10_passesAll 1 [.ref 38, .int (zii w), .int (zii 0)] ((zs (zs M 13 K) 3 A)) (fun o M9 => o = none ∧ ∃ K9, (K9 0 = K 0 ∧ K9 1 0 = K 1 0 ∧ K9 1 3 = K 1 3) ∧ M9 = zs (zs M 13 K9) 3 B) := by
  refine zMet (by decide) (Nat.le_of_ble_eq_true rfl) ?_
  show zX kX10_passesAll 1 0 [some (.ref 38), some (.int (zii w)), some (.int (zii 0))] [] _ _
  refine Y_aload_0 i_X10_passesAll_0 ?_
  refine X_bipush i_X10_passesAll_1 (by decide +kernel) ?_
  refine Y_iload_1 i_X10_passesAll_3 ?_
  refine X_imul i_X10_passesAll_4 ?_
  refine Y_putI i_X10_passesAll_5 f_X10_151 rfl t_7_22 (zp1 rfl (zp0 _ _ _ _ _ _)) ?_
  refine Y_aload_0 i_X10_passesAll_8 ?_
  refine Y_iload_2 i_X10_passesAll_9 ?_
  refine Y_putZ i_X10_passesAll_10 f_X10_147 rfl t_7_21 (by omega) (zp1 rfl (zp0 _ _ _ _ _ _)) ?_
  have p0 : zGk w K (zwr (zwr K 1 2 (42 * w)) 1 1 0) 0 := ⟨by rw [zwr_row rfl, zwr_row rfl], by rw [zr2 (by decide) rfl, zr2 (by decide) rfl], by rw [zr2 (by decide) rfl, zr2 (by decide) rfl], by rw [zr0], by rw [zr2 (by decide) rfl, zr0]; omega⟩
  have s0 : zGs B A 0 := fun x x0 x1 => by omega
  refine Y_aload_0 i_X10_passesAll_13 ?_
  refine Y_aload_0 i_X10_passesAll_14 ?_
  refine X_getR i_X10_passesAll_15 f_X10_13 rfl ?_
  refine Y_callVq (k' := kX10_passes) i_X10_passesAll_18 l_X10_154 m_X10_passes (c_X10_passG0 w0 w1 hk p0 s0) rfl rfl rfl rfl rfl ?_
  intro r9 M9 hr9
  obtain ⟨rfl, K6, A6, p6, s6, rfl⟩ := hr9
  change zX _ _ _ _ [] _ _
  refine Y_aload_0 i_X10_passesAll_21 ?_
  refine Y_aload_0 i_X10_passesAll_22 ?_
  refine X_getR i_X10_passesAll_23 f_X10_16 rfl ?_
  refine Y_callVq (k' := kX10_passes) i_X10_passesAll_26 l_X10_154 m_X10_passes (c_X10_passG1 w0 w1 hk p6 s6) rfl rfl rfl rfl rfl ?_
  intro r9 M9 hr9
  obtain ⟨rfl, K12, A12, p12, s12, rfl⟩ := hr9
  change zX _ _ _ _ [] _ _
  refine Y_aload_0 i_X10_passesAll_29 ?_
  refine Y_aload_0 i_X10_passesAll_30 ?_
  refine X_getR i_X10_passesAll_31 f_X10_19 rfl ?_
  refine Y_callVq (k' := kX10_passes) i_X10_passesAll_34 l_X10_154 m_X10_passes (c_X10_passG2 w0 w1 hk p12 s12) rfl rfl rfl rfl rfl ?_
  intro r9 M9 hr9
  obtain ⟨rfl, K18, A18, p18, s18, rfl⟩ := hr9
  change zX _ _ _ _ [] _ _
  refine Y_aload_0 i_X10_passesAll_37 ?_
  refine Y_aload_0 i_X10_passesAll_38 ?_
  refine X_getR i_X10_passesAll_39 f_X10_22 rfl ?_
  refine Y_callVq (k' := kX10_passes) i_X10_passesAll_42 l_X10_154 m_X10_passes (c_X10_passG3 w0 w1 hk p18 s18) rfl rfl rfl rfl rfl ?_
  intro r9 M9 hr9
  obtain ⟨rfl, K24, A24, p24, s24, rfl⟩ := hr9
  change zX _ _ _ _ [] _ _
  refine Y_aload_0 i_X10_passesAll_45 ?_
  refine Y_aload_0 i_X10_passesAll_46 ?_
  refine X_getR i_X10_passesAll_47 f_X10_25 rfl ?_
  refine Y_callVq (k' := kX10_passes) i_X10_passesAll_50 l_X10_154 m_X10_passes (c_X10_passG4 w0 w1 hk p24 s24) rfl rfl rfl rfl rfl ?_
  intro r9 M9 hr9
  obtain ⟨rfl, K30, A30, p30, s30, rfl⟩ := hr9
  change zX _ _ _ _ [] _ _
  refine Y_aload_0 i_X10_passesAll_53 ?_
  refine Y_aload_0 i_X10_passesAll_54 ?_
  refine X_getR i_X10_passesAll_55 f_X10_28 rfl ?_
  refine Y_callVq (k' := kX10_passes) i_X10_passesAll_58 l_X10_154 m_X10_passes (c_X10_passG5 w0 w1 hk p30 s30) rfl rfl rfl rfl rfl ?_
  intro r9 M9 hr9
  obtain ⟨rfl, K36, A36, p36, s36, rfl⟩ := hr9
  change zX _ _ _ _ [] _ _
  refine Y_aload_0 i_X10_passesAll_61 ?_
  refine Y_aload_0 i_X10_passesAll_62 ?_
  refine Y_aload_0 i_X10_passesAll_63 ?_
  refine Y_getI i_X10_passesAll_64 f_X10_65 rfl (zg0 _ _ _ _ _) ?_
  refine Y_callVq (k' := kX10_passOne) i_X10_passesAll_67 l_X10_158 m_X10_passOne (c_X10_oneG (n := 36) w0 w1 (by omega) (by omega) hk p36) rfl rfl rfl rfl rfl ?_
  intro r9 M9 hr9
  obtain ⟨rfl, K37, p37, rfl⟩ := hr9
  change zX _ _ _ _ (.int _ :: .ref 38 :: []) _ _
  refine Y_putI i_X10_passesAll_70 f_X10_65 rfl t_7_7 (zp0 _ _ _ _ _ _) ?_
  have s37 := zGs_6 (i := 0) (by omega) s36
  rw [show (36 + 0 : Int) = 36 by omega] at s37
  rw [show (36 + 1 : Int) = 37 by omega] at s37
  generalize zwr A36 6 0 (zsl B 36) = A37 at s37 ⊢
  refine Y_aload_0 i_X10_passesAll_73 ?_
  refine Y_aload_0 i_X10_passesAll_74 ?_
  refine Y_aload_0 i_X10_passesAll_75 ?_
  refine Y_getI i_X10_passesAll_76 f_X10_58 rfl (zg0 _ _ _ _ _) ?_
  refine Y_callVq (k' := kX10_passOne) i_X10_passesAll_79 l_X10_158 m_X10_passOne (c_X10_oneG (n := 37) w0 w1 (by omega) (by omega) hk p37) rfl rfl rfl rfl rfl ?_
  intro r9 M9 hr9
  obtain ⟨rfl, K38, p38, rfl⟩ := hr9
  change zX _ _ _ _ (.int _ :: .ref 38 :: []) _ _
  refine Y_putI i_X10_passesAll_82 f_X10_58 rfl t_7_8 (zp0 _ _ _ _ _ _) ?_
  have s38 := zGs_6 (i := 1) (by omega) s37
  rw [show (36 + 1 : Int) = 37 by omega] at s38
  rw [show (37 + 1 : Int) = 38 by omega] at s38
  generalize zwr A37 6 1 (zsl B 37) = A38 at s38 ⊢
  refine Y_aload_0 i_X10_passesAll_85 ?_
  refine Y_aload_0 i_X10_passesAll_86 ?_
  refine Y_aload_0 i_X10_passesAll_87 ?_
  refine Y_getI i_X10_passesAll_88 f_X10_124 rfl (zg0 _ _ _ _ _) ?_
  refine Y_callVq (k' := kX10_passOne) i_X10_passesAll_91 l_X10_158 m_X10_passOne (c_X10_oneG (n := 38) w0 w1 (by omega) (by omega) hk p38) rfl rfl rfl rfl rfl ?_
  intro r9 M9 hr9
  obtain ⟨rfl, K39, p39, rfl⟩ := hr9
  change zX _ _ _ _ (.int _ :: .ref 38 :: []) _ _
  refine Y_putI i_X10_passesAll_94 f_X10_124 rfl t_7_9 (zp0 _ _ _ _ _ _) ?_
  have s39 := zGs_6 (i := 2) (by omega) s38
  rw [show (36 + 2 : Int) = 38 by omega] at s39
  rw [show (38 + 1 : Int) = 39 by omega] at s39
  generalize zwr A38 6 2 (zsl B 38) = A39 at s39 ⊢
  refine Y_aload_0 i_X10_passesAll_97 ?_
  refine Y_aload_0 i_X10_passesAll_98 ?_
  refine Y_aload_0 i_X10_passesAll_99 ?_
  refine Y_getI i_X10_passesAll_100 f_X10_104 rfl (zg0 _ _ _ _ _) ?_
  refine Y_callVq (k' := kX10_passOne) i_X10_passesAll_103 l_X10_158 m_X10_passOne (c_X10_oneG (n := 39) w0 w1 (by omega) (by omega) hk p39) rfl rfl rfl rfl rfl ?_
  intro r9 M9 hr9
  obtain ⟨rfl, K40, p40, rfl⟩ := hr9
  change zX _ _ _ _ (.int _ :: .ref 38 :: []) _ _
  refine Y_putI i_X10_passesAll_106 f_X10_104 rfl t_7_10 (zp0 _ _ _ _ _ _) ?_
  have s40 := zGs_6 (i := 3) (by omega) s39
  rw [show (36 + 3 : Int) = 39 by omega] at s40
  rw [show (39 + 1 : Int) = 40 by omega] at s40
  generalize zwr A39 6 3 (zsl B 39) = A40 at s40 ⊢
  refine Y_aload_0 i_X10_passesAll_109 ?_
  refine Y_aload_0 i_X10_passesAll_110 ?_
  refine Y_aload_0 i_X10_passesAll_111 ?_
  refine Y_getI i_X10_passesAll_112 f_X10_161 rfl (zg0 _ _ _ _ _) ?_
  refine Y_callVq (k' := kX10_passOne) i_X10_passesAll_115 l_X10_158 m_X10_passOne (c_X10_oneG (n := 40) w0 w1 (by omega) (by omega) hk p40) rfl rfl rfl rfl rfl ?_
  intro r9 M9 hr9
  obtain ⟨rfl, K41, p41, rfl⟩ := hr9
  change zX _ _ _ _ (.int _ :: .ref 38 :: []) _ _
  refine Y_putI i_X10_passesAll_118 f_X10_161 rfl t_7_11 (zp0 _ _ _ _ _ _) ?_
  have s41 := zGs_6 (i := 4) (by omega) s40
  rw [show (36 + 4 : Int) = 40 by omega] at s41
  rw [show (40 + 1 : Int) = 41 by omega] at s41
  generalize zwr A40 6 4 (zsl B 40) = A41 at s41 ⊢
  refine X_aft (m := 3) (B := B) (by omega) (zGs_ae s41) ?_
  refine X_vret i_X10_passesAll_121 rfl ?_
  exact ⟨rfl, K41, ⟨p41.1, p41.2.1, p41.2.2.1⟩, rfl⟩
set_option maxRecDepth 100000 in
theorem c_X10_thinks {M : zMem} {A K : zAft} : zCt kX10_thinks 2 [.ref 38] ((zs (zs M 13 K) 3 A)) (fun o M9 => o = none ∧ ∃ K9, (zKp K9 2 A ∧ zKe 84 K K9) ∧ M9 = zs (zs M 13 K9) 3 A) := by
  refine zMet (by decide) (Nat.le_of_ble_eq_true rfl) ?_
  show zX kX10_thinks 2 0 [some (.ref 38)] [] _ _
  refine Y_aload_0 i_X10_thinks_0 ?_
  refine X_iconst i_X10_thinks_1 ?_
  refine X_iconst i_X10_thinks_2 ?_
  refine Y_callVq (k' := kX10_passesAll) i_X10_thinks_3 l_X10_137 m_X10_passesAll (c_X10_keepAll (w := 2) (by omega) (by omega)) rfl rfl rfl rfl rfl ?_
  intro r9 M9 hr9
  obtain ⟨rfl, K9, hk9, rfl⟩ := hr9
  change zX _ _ _ _ [] _ _
  refine X_vret i_X10_thinks_6 rfl ?_
  exact ⟨rfl, K9, ⟨hk9.1, fun i hi => hk9.2.1 i (by omega), hk9.2.2⟩, rfl⟩
set_option maxRecDepth 100000 in
theorem c_X10_forgets {M : zMem} {A B K : zAft} (hk : zKp K 2 B) : zCt kX10_forgets 2 [.ref 38] ((zs (zs M 13 K) 3 A)) (fun o M9 => o = none ∧ ∃ K9, zKe 84 K K9 ∧ M9 = zs (zs M 13 K9) 3 B) := by
  refine zMet (by decide) (Nat.le_of_ble_eq_true rfl) ?_
  show zX kX10_forgets 2 0 [some (.ref 38)] [] _ _
  refine Y_aload_0 i_X10_forgets_0 ?_
  refine X_iconst i_X10_forgets_1 ?_
  refine X_iconst i_X10_forgets_2 ?_
  refine Y_callVq (k' := kX10_passesAll) i_X10_forgets_3 l_X10_137 m_X10_passesAll (c_X10_getAll (w := 2) (by omega) (by omega) hk) rfl rfl rfl rfl rfl ?_
  intro r9 M9 hr9
  obtain ⟨rfl, K9, hk9, rfl⟩ := hr9
  change zX _ _ _ _ [] _ _
  refine X_vret i_X10_forgets_6 rfl ?_
  exact ⟨rfl, K9, zKe.of hk9, rfl⟩
