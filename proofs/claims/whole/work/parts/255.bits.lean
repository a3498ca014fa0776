/-! how many bits a number has -/
theorem zushr_n {a k : Nat} (ha : a < 2147483648) (hk : ((nI k).toUInt32 &&& Int32.toUInt32 31).toNat = k) (hk2 : k < 31) : zushr (a : Int) (k : Int) = ((a / 2 ^ k : Nat) : Int) := by
  have hd : a / 2 ^ k ≤ a := Nat.div_le_self _ _
  unfold zushr
  rw [zii_n ha, zii_n (n := k) (by omega)]
  generalize hc : (nI k).toUInt32 &&& Int32.toUInt32 31 = c at hk ⊢
  have e3 : (nI a).toUInt32 >>> c = UInt32.ofNat (a / 2 ^ k) := by
    apply UInt32.toNat_inj.mp
    have e1 : (nI a).toUInt32.toNat = a := by
      show (BitVec.ofNat 32 a).toNat = a
      rw [BitVec.toNat_ofNat]; omega
    rw [UInt32.toNat_shiftRight, e1, hk, UInt32.toNat_ofNat', Nat.mod_eq_of_lt (show k < 32 by omega), Nat.shiftRight_eq_div_pow, Nat.mod_eq_of_lt (show a / 2 ^ k < 2 ^ 32 by omega)]
  rw [e3]
  exact nI_toInt (by omega)
theorem pc_and (p q m n : Nat) (hp : p < 256) (hm : m < 256) : (p + 256 * q) &&& (m + 256 * n) = (p &&& m) + 256 * (q &&& n) := by
  have h1 : ((p + 256 * q) &&& (m + 256 * n)) % 2 ^ 8 = p &&& m := by
    rw [Nat.and_mod_two_pow]; congr 1 <;> omega
  have h2 : ((p + 256 * q) &&& (m + 256 * n)) / 2 ^ 8 = q &&& n := by
    rw [Nat.and_div_two_pow]; congr 1 <;> omega
  omega
def pc1 (v m : Nat) : Nat := v - (v / 2 &&& m)
def pc2 (v m : Nat) : Nat := (v &&& m) + (v / 4 &&& m)
def pc3 (v m : Nat) : Nat := (v + v / 16) &&& m
/-- a byte -/
def pcb (x : Nat) : Nat := pc3 (pc2 (pc1 x 85) 51) 15
theorem pcb_all : ∀ x : Nat, x < 256 → (x / 2 &&& 85) ≤ x ∧ pc1 x 85 < 256 ∧ pc2 (pc1 x 85) 51 ≤ 68 ∧ pc2 (pc1 x 85) 51 % 16 ≤ 4 ∧ pcb x ≤ 8 := by
  have h : ∀ x : Fin 256, (x.val / 2 &&& 85) ≤ x.val ∧ pc1 x.val 85 < 256 ∧ pc2 (pc1 x.val 85) 51 ≤ 68 ∧ pc2 (pc1 x.val 85) 51 % 16 ≤ 4 ∧ pcb x.val ≤ 8 := by decide +kernel
  exact fun x hx => h ⟨x, hx⟩
theorem pc_85 : ∀ x c : Nat, x < 128 → c < 2 → (x + 128 * c) &&& 85 = x &&& 85 := by
  have h : ∀ x : Fin 128, ∀ c : Fin 2, (x.val + 128 * c.val) &&& 85 = x.val &&& 85 := by decide +kernel
  exact fun x c hx hc => h ⟨x, hx⟩ ⟨c, hc⟩
theorem pc_51 : ∀ x c : Nat, x < 64 → c < 4 → (x + 64 * c) &&& 51 = x &&& 51 := by
  have h : ∀ x : Fin 64, ∀ c : Fin 4, (x.val + 64 * c.val) &&& 51 = x.val &&& 51 := by decide +kernel
  exact fun x c hx hc => h ⟨x, hx⟩ ⟨c, hc⟩
theorem pc_15 (x c : Nat) : (x + 16 * c) &&& 15 = x &&& 15 := by
  rw [show 15 = 2 ^ 4 - 1 from rfl, Nat.and_two_pow_sub_one_eq_mod, Nat.and_two_pow_sub_one_eq_mod]; omega
theorem pc1_s {x y m : Nat} (hx : x < 256) (hy : (y / 2 &&& m) ≤ y) : pc1 (x + 256 * y) (85 + 256 * m) = pc1 x 85 + 256 * pc1 y m ∧ ((x + 256 * y) / 2 &&& (85 + 256 * m)) ≤ x + 256 * y := by
  have h1 := (pcb_all x hx).1
  have e : (x + 256 * y) / 2 &&& (85 + 256 * m) = (x / 2 &&& 85) + 256 * (y / 2 &&& m) := by
    rw [show (x + 256 * y) / 2 = (x / 2 + 128 * (y % 2)) + 256 * (y / 2) by omega, pc_and _ _ _ _ (by omega) (by omega), pc_85 _ _ (by omega) (by omega)]
  unfold pc1
  rw [e]
  omega
theorem pc2_s {x y m : Nat} (hx : x < 256) : pc2 (x + 256 * y) (51 + 256 * m) = pc2 x 51 + 256 * pc2 y m := by
  unfold pc2
  rw [show (x + 256 * y) / 4 = (x / 4 + 64 * (y % 4)) + 256 * (y / 4) by omega, pc_and _ _ _ _ hx (by omega), pc_and _ _ _ _ (by omega) (by omega), pc_51 _ _ (by omega) (by omega)]
  omega
theorem pc3_s {x y m : Nat} (hx : x ≤ 68) (hy : y % 16 ≤ 4) : pc3 (x + 256 * y) (15 + 256 * m) = pc3 x 15 + 256 * pc3 y m := by
  unfold pc3
  rw [show x + 256 * y + (x + 256 * y) / 16 = (x + x / 16 + 16 * (y % 16)) + 256 * (y + y / 16) by omega, pc_and _ _ _ _ (by omega) (by omega), pc_15]
theorem zbc_n (a b c d : Nat) (ha : a < 256) (hb : b < 256) (hc : c < 256) (hd : d < 128) : zbc ((a + 256 * (b + 256 * (c + 256 * d)) : Nat) : Int) = ((pcb a + pcb b + pcb c + pcb d : Nat) : Int) := by
  obtain ⟨a1, a2, a3, a4, a5⟩ := pcb_all a ha
  obtain ⟨b1, b2, b3, b4, b5⟩ := pcb_all b hb
  obtain ⟨c1, c2, c3, c4, c5⟩ := pcb_all c hc
  obtain ⟨d1, d2, d3, d4, d5⟩ := pcb_all d (by omega)
  have q1 := pc1_s (x := c) (y := d) (m := 85) hc d1
  have q2 := pc1_s (x := b) (y := c + 256 * d) (m := 85 + 256 * 85) hb q1.2
  have q3 := pc1_s (x := a) (y := b + 256 * (c + 256 * d)) (m := 85 + 256 * (85 + 256 * 85)) ha q2.2
  generalize hv : a + 256 * (b + 256 * (c + 256 * d)) = v at q3 ⊢
  have hvb : v < 2147483648 := by omega
  have e1 : zb1 (v : Int) = (pc1 v 1431655765 : Nat) := by
    unfold zb1
    rw [show (1 : Int) = ((1 : Nat) : Int) from rfl, zushr_n hvb (by decide) (by omega), show (1431655765 : Int) = ((1431655765 : Nat) : Int) from rfl, zand_n (by omega) (by omega)]
    have q32 : v / 2 &&& 1431655765 ≤ v := q3.2
    unfold pc1
    rw [Nat.pow_one]
    omega
  rw [q2.1, q1.1] at q3
  have r1 := pc2_s (x := pc1 c 85) (y := pc1 d 85) (m := 51) c2
  have r2 := pc2_s (x := pc1 b 85) (y := pc1 c 85 + 256 * pc1 d 85) (m := 51 + 256 * 51) b2
  have r3 := pc2_s (x := pc1 a 85) (y := pc1 b 85 + 256 * (pc1 c 85 + 256 * pc1 d 85)) (m := 51 + 256 * (51 + 256 * 51)) a2
  rw [r2, r1, ← q3.1] at r3
  have hpv : pc1 v 1431655765 ≤ v := by unfold pc1; omega
  have e2 : zb2 (v : Int) = (pc2 (pc1 v 1431655765) 858993459 : Nat) := by
    unfold zb2
    rw [e1, show (2 : Int) = ((2 : Nat) : Int) from rfl, zushr_n (by omega) (by decide) (by omega), show (858993459 : Int) = ((858993459 : Nat) : Int) from rfl, zand_n (by omega) (by omega), zand_n (by omega) (by omega)]
    unfold pc2
    rw [show pc1 v 1431655765 / 2 ^ 2 = pc1 v 1431655765 / 4 from rfl]
    omega
  have s1 := pc3_s (x := pc2 (pc1 c 85) 51) (y := pc2 (pc1 d 85) 51) (m := 15) c3 d4
  have s2 := pc3_s (x := pc2 (pc1 b 85) 51) (y := pc2 (pc1 c 85) 51 + 256 * pc2 (pc1 d 85) 51) (m := 15 + 256 * 15) b3 (by omega)
  have s3 := pc3_s (x := pc2 (pc1 a 85) 51) (y := pc2 (pc1 b 85) 51 + 256 * (pc2 (pc1 c 85) 51 + 256 * pc2 (pc1 d 85) 51)) (m := 15 + 256 * (15 + 256 * 15)) a3 (by omega)
  rw [s2, s1, ← r3] at s3
  change pc3 (pc2 (pc1 v 1431655765) 858993459) 252645135 = pcb a + 256 * (pcb b + 256 * (pcb c + 256 * pcb d)) at s3
  change pc2 (pc1 v 1431655765) 858993459 = _ at r3
  have e3 : zb3 (v : Int) = ((pcb a + 256 * (pcb b + 256 * (pcb c + 256 * pcb d)) : Nat) : Int) := by
    unfold zb3
    rw [e2, show (4 : Int) = ((4 : Nat) : Int) from rfl, zushr_n (by omega) (by decide) (by omega), show (252645135 : Int) = ((252645135 : Nat) : Int) from rfl, ← Int.natCast_add, zand_n (by omega) (by omega)]
    exact congrArg Int.ofNat s3
  have e4 : zb4 (v : Int) = ((pcb a + pcb b + 256 * (pcb b + pcb c + 256 * (pcb c + pcb d + 256 * pcb d)) : Nat) : Int) := by
    unfold zb4
    rw [e3, show (8 : Int) = ((8 : Nat) : Int) from rfl, zushr_n (by omega) (by decide) (by omega)]
    omega
  have e5 : zb5 (v : Int) = ((pcb a + pcb b + pcb c + pcb d + 256 * (pcb b + pcb c + pcb d + 256 * (pcb c + pcb d + 256 * pcb d)) : Nat) : Int) := by
    unfold zb5
    rw [e4, show (16 : Int) = ((16 : Nat) : Int) from rfl, zushr_n (by omega) (by decide) (by omega)]
    omega
  unfold zbc
  rw [e5, show (63 : Int) = ((63 : Nat) : Int) from rfl, zand_n (by omega) (by omega), show 63 = 2 ^ 6 - 1 from rfl, Nat.and_two_pow_sub_one_eq_mod]
  omega
/-- a set of numbers, and how many -/
def sPw (p : Nat → Bool) : Nat → Nat
  | 0 => 0
  | n + 1 => if p n then sPw p n + 2 ^ n else sPw p n
def sCn (p : Nat → Bool) : Nat → Nat
  | 0 => 0
  | n + 1 => if p n then sCn p n + 1 else sCn p n
theorem sPw_lt (p : Nat → Bool) : ∀ n : Nat, sPw p n < 2 ^ n := by
  intro n
  induction n with
  | zero => simp [sPw]
  | succ n ih => simp only [sPw]; rw [Nat.pow_succ]; split <;> omega
theorem pcb_add : ∀ k x : Nat, k < 8 → x < 2 ^ k → pcb (x + 2 ^ k) = pcb x + 1 := by
  have h : ∀ k : Fin 8, ∀ x : Fin 256, x.val < 2 ^ k.val → pcb (x.val + 2 ^ k.val) = pcb x.val + 1 := by decide +kernel
  intro k x hk hx
  have h2 : (2 : Nat) ^ k ≤ 2 ^ 8 := Nat.pow_le_pow_right (by omega) (by omega)
  exact h ⟨k, hk⟩ ⟨x, by omega⟩ hx
theorem pcb_sPw (p : Nat → Bool) : ∀ n : Nat, n ≤ 8 → pcb (sPw p n) = sCn p n := by
  intro n
  induction n with
  | zero => intro _; show pcb 0 = 0; decide
  | succ n ih =>
    intro hn
    simp only [sPw, sCn]
    split
    · rw [pcb_add n _ (by omega) (sPw_lt p n), ih (by omega)]
    · exact ih (by omega)
theorem sPw_split (p : Nat → Bool) : ∀ n : Nat, sPw p (8 + n) = sPw p 8 + 256 * sPw (fun k => p (8 + k)) n ∧ sCn p (8 + n) = sCn p 8 + sCn (fun k => p (8 + k)) n := by
  intro n
  induction n with
  | zero => exact ⟨rfl, rfl⟩
  | succ n ih =>
    rw [← Nat.add_assoc]
    have e8 : 2 ^ (8 + n) = 256 * 2 ^ n := Nat.pow_add 2 8 n
    by_cases h : p (8 + n) = true
    · have f1 : sPw p (8 + n + 1) = sPw p (8 + n) + 2 ^ (8 + n) := by show (if p (8 + n) = true then _ else _) = _; rw [if_pos h]
      have f2 : sCn p (8 + n + 1) = sCn p (8 + n) + 1 := by show (if p (8 + n) = true then _ else _) = _; rw [if_pos h]
      have f3 : sPw (fun k => p (8 + k)) (n + 1) = sPw (fun k => p (8 + k)) n + 2 ^ n := by show (if p (8 + n) = true then _ else _) = _; rw [if_pos h]
      have f4 : sCn (fun k => p (8 + k)) (n + 1) = sCn (fun k => p (8 + k)) n + 1 := by show (if p (8 + n) = true then _ else _) = _; rw [if_pos h]
      rw [f1, f2, f3, f4]
      omega
    · have f1 : sPw p (8 + n + 1) = sPw p (8 + n) := by show (if p (8 + n) = true then _ else _) = _; rw [if_neg h]
      have f2 : sCn p (8 + n + 1) = sCn p (8 + n) := by show (if p (8 + n) = true then _ else _) = _; rw [if_neg h]
      have f3 : sPw (fun k => p (8 + k)) (n + 1) = sPw (fun k => p (8 + k)) n := by show (if p (8 + n) = true then _ else _) = _; rw [if_neg h]
      have f4 : sCn (fun k => p (8 + k)) (n + 1) = sCn (fun k => p (8 + k)) n := by show (if p (8 + n) = true then _ else _) = _; rw [if_neg h]
      rw [f1, f2, f3, f4]
      exact ih
theorem zbc_sPw (p : Nat → Bool) : zbc ((sPw p 31 : Nat) : Int) = (sCn p 31 : Int) := by
  have h1 := sPw_split p 23
  have h2 := sPw_split (fun k => p (8 + k)) 15
  have h3 := sPw_split (fun k => p (8 + (8 + k))) 7
  have b1 := sPw_lt p 8
  have b2 := sPw_lt (fun k => p (8 + k)) 8
  have b3 := sPw_lt (fun k => p (8 + (8 + k))) 8
  have b4 := sPw_lt (fun k => p (8 + (8 + (8 + k)))) 7
  have h4 := zbc_n _ _ _ _ b1 b2 b3 b4
  rw [pcb_sPw _ 8 (by omega), pcb_sPw _ 8 (by omega), pcb_sPw _ 8 (by omega), pcb_sPw _ 7 (by omega)] at h4
  change sPw p 31 = _ ∧ sCn p 31 = _ at h1
  change sPw _ 23 = _ ∧ sCn _ 23 = _ at h2
  change sPw _ 15 = _ ∧ sCn _ 15 = _ at h3
  rw [h1.1, h1.2, h2.1, h2.2, h3.1, h3.2, h4]
  omega
theorem zor_add : ∀ n a : Nat, n < 31 → a < 2 ^ n → zor (a : Int) (zshl 1 (n : Int)) = ((a + 2 ^ n : Nat) : Int) := by
  intro n a hn ha
  have h2 : (2 : Nat) ^ n ≤ 2 ^ 30 := Nat.pow_le_pow_right (by omega) (by omega)
  rw [zshl_n n hn, zor_n (by omega) (by omega)]
  congr 1
  have := Nat.two_pow_add_eq_or_of_lt ha 1
  rw [Nat.or_comm]
  rw [Nat.mul_one] at this
  omega
