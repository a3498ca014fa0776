/-! sets of guests as numbers below 64 -/
theorem zii_n {n : Nat} (h : n < 2147483648) : zii n = nI n := Int32.toInt_inj.mp (by rw [zii_toInt ⟨by omega, by omega⟩, nI_toInt (by omega)])
theorem bx_and (a b : Nat) : nI a &&& nI b = nI (a &&& b) := by
  apply Int32.toBitVec_inj.1
  show BitVec.ofNat 32 a &&& BitVec.ofNat 32 b = BitVec.ofNat 32 (a &&& b)
  apply BitVec.eq_of_getLsbD_eq
  intro i hi
  simp [hi]
theorem bx_or (a b : Nat) : nI a ||| nI b = nI (a ||| b) := by
  apply Int32.toBitVec_inj.1
  show BitVec.ofNat 32 a ||| BitVec.ofNat 32 b = BitVec.ofNat 32 (a ||| b)
  apply BitVec.eq_of_getLsbD_eq
  intro i hi
  simp [hi]
theorem bx_xor (a b : Nat) : nI a ^^^ nI b = nI (a ^^^ b) := by
  apply Int32.toBitVec_inj.1
  show BitVec.ofNat 32 a ^^^ BitVec.ofNat 32 b = BitVec.ofNat 32 (a ^^^ b)
  apply BitVec.eq_of_getLsbD_eq
  intro i hi
  simp [hi]
theorem zand_n {a b : Nat} (ha : a < 2147483648) (hb : b < 2147483648) : zand a b = ((a &&& b : Nat) : Int) := by
  unfold zand
  rw [zii_n ha, zii_n hb, bx_and, nI_toInt (Nat.lt_of_le_of_lt Nat.and_le_left ha)]
theorem zor_n {a b : Nat} (ha : a < 2147483648) (hb : b < 2147483648) : zor a b = ((a ||| b : Nat) : Int) := by
  unfold zor
  rw [zii_n ha, zii_n hb, bx_or, nI_toInt (Nat.or_lt_two_pow (n := 31) ha hb)]
theorem zxor_n {a b : Nat} (ha : a < 2147483648) (hb : b < 2147483648) : zxor a b = ((a ^^^ b : Nat) : Int) := by
  unfold zxor
  rw [zii_n ha, zii_n hb, bx_xor, nI_toInt (Nat.xor_lt_two_pow (n := 31) ha hb)]
theorem zshl_n : ∀ g : Nat, g < 31 → zshl 1 (g : Int) = ((2 ^ g : Nat) : Int) := by
  have h : ∀ g : Fin 31, zshl 1 ((g.val : Nat) : Int) = ((2 ^ g.val : Nat) : Int) := by decide +kernel
  exact fun g hg => h ⟨g, hg⟩
theorem sBit_n : ∀ s g : Nat, s < 64 → g < 6 → sBit (s : Int) (g : Int) = if s.testBit g then 1 else 0 := by
  have h : ∀ s : Fin 64, ∀ g : Fin 6, sBit ((s.val : Nat) : Int) ((g.val : Nat) : Int) = if s.val.testBit g.val then 1 else 0 := by decide +kernel
  exact fun s g hs hg => h ⟨s, hs⟩ ⟨g, hg⟩
theorem zsub_n : ∀ s t : Nat, s < 64 → t < 64 → (zand (s : Int) (zxor (t : Int) (-1)) = 0 ↔ s &&& t = s) := by
  have h : ∀ s : Fin 64, ∀ t : Fin 64, (zand ((s.val : Nat) : Int) (zxor ((t.val : Nat) : Int) (-1)) = 0 ↔ s.val &&& t.val = s.val) := by decide +kernel
  exact fun s t hs ht => h ⟨s, hs⟩ ⟨t, ht⟩
def sSn (A : zAft) (s : Int) : Nat → Nat
  | 0 => 0
  | n + 1 => if A 3 n = s then sSn A s n ||| 2 ^ n else sSn A s n
theorem sSn_lt (A : zAft) (s : Int) : ∀ n, sSn A s n < 2 ^ n := by
  intro n
  induction n with
  | zero => simp [sSn]
  | succ n ih =>
    simp only [sSn]
    have h2 : (2 : Nat) ^ n < 2 ^ (n + 1) := Nat.pow_lt_pow_right (by omega) (by omega)
    split
    · exact Nat.or_lt_two_pow (by omega) h2
    · omega
theorem sSn_64 (A : zAft) (s : Int) {n : Nat} (hn : n ≤ 6) : sSn A s n < 64 := Nat.lt_of_lt_of_le (sSn_lt A s n) (Nat.pow_le_pow_right (by omega) hn)
theorem sSn_bit (A : zAft) (s : Int) (g : Nat) : ∀ n, (sSn A s n).testBit g = (decide (g < n) && decide (A 3 g = s)) := by
  intro n
  induction n with
  | zero => simp [sSn]
  | succ n ih =>
    simp only [sSn]
    split
    next h =>
      rw [Nat.testBit_or, ih, Nat.testBit_two_pow]
      by_cases e : n = g
      · subst e; simp [h]
      · have e2 : decide (g < n + 1) = decide (g < n) := by simp; omega
        simp [e, e2]
    next h =>
      rw [ih]
      by_cases e : n = g
      · subst e; simp [h]
      · have e2 : decide (g < n + 1) = decide (g < n) := by simp; omega
        simp [e2]
theorem sSet_n (A : zAft) (s : Int) : ∀ n : Nat, n ≤ 6 → sSet A s n = (sSn A s n : Int) := by
  intro n
  induction n with
  | zero => intro _; rfl
  | succ n ih =>
    intro hn
    have h1 := sSn_64 A s (n := n) (by omega)
    simp only [sSet, sSn]
    split
    · have h2 : (2 : Nat) ^ n ≤ 2 ^ 6 := Nat.pow_le_pow_right (by omega) (by omega)
      rw [ih (by omega), zshl_n n (by omega), zor_n (by omega) (by omega)]
    · exact ih (by omega)
/-- one more or one less of a set within a set stays within -/
theorem bx_in : ∀ s t g : Nat, s < 64 → t < 64 → g < 6 → s &&& t = s → t.testBit g = true → (s ^^^ 2 ^ g) &&& t = s ^^^ 2 ^ g := by
  intro s t g hs ht hg h1 h2
  apply Nat.eq_of_testBit_eq
  intro i
  have h3 : (s &&& t).testBit i = s.testBit i := by rw [h1]
  rw [Nat.testBit_and] at h3
  rw [Nat.testBit_and, Nat.testBit_xor, Nat.testBit_two_pow]
  by_cases e : g = i
  · subst e; simp [h2]
  · simp only [e, decide_false, Bool.xor_false]; exact h3
theorem bx_lt {s g : Nat} (hs : s < 64) (hg : g < 6) : s ^^^ 2 ^ g < 64 := Nat.xor_lt_two_pow (n := 6) hs (Nat.pow_lt_pow_right (by omega) hg)
theorem bx_bit {t g : Nat} (ht : t < 64) (hg : g < 6) : (zand (t : Int) (zshl 1 (g : Int)) = 0 ↔ t.testBit g = false) := by
  rw [zshl_n g (by omega)]
  have h2 : (2 : Nat) ^ g ≤ 2 ^ 6 := Nat.pow_le_pow_right (by omega) (by omega)
  rw [zand_n (by omega) (by omega)]
  constructor
  · intro h
    have h3 : t &&& 2 ^ g = 0 := by omega
    have h4 : (t &&& 2 ^ g).testBit g = false := by rw [h3]; simp
    rw [Nat.testBit_and, Nat.testBit_two_pow_self, Bool.and_true] at h4
    exact h4
  · intro h
    have h3 : t &&& 2 ^ g = 0 := by
      apply Nat.eq_of_testBit_eq
      intro i
      rw [Nat.testBit_and, Nat.testBit_two_pow]
      by_cases e : g = i
      · subst e; simp [h]
      · simp [e]
    rw [h3]; rfl
theorem bx_xs {s g : Nat} (hs : s < 64) (hg : g < 6) : zxor (s : Int) (zshl 1 (g : Int)) = ((s ^^^ 2 ^ g : Nat) : Int) := by
  rw [zshl_n g (by omega)]
  have h2 : (2 : Nat) ^ g ≤ 2 ^ 6 := Nat.pow_le_pow_right (by omega) (by omega)
  exact zxor_n (by omega) (by omega)
/-- none of a group is gone sooner otherwise -/
def sRf (A : zAft) (s t : Nat) : Nat → Bool
  | 0 => true
  | n + 1 => sRf A s t n && (!t.testBit n || decide (sF A s n ≤ sF A ((s ^^^ 2 ^ n : Nat) : Int) n))
theorem sRf_le {A : zAft} {s t : Nat} : ∀ {m n : Nat}, n ≤ m → sRf A s t m = true → sRf A s t n = true := by
  intro m
  induction m with
  | zero => intro n h h2; rw [show n = 0 by omega]; rfl
  | succ m ih =>
    intro n h h2
    by_cases e : n = m + 1
    · subst e; exact h2
    · simp only [sRf, Bool.and_eq_true] at h2
      exact ih (by omega) h2.1
def sPs (p x y : Nat) : Nat := (p / 2) * 2 ^ x ||| (p % 2) * 2 ^ y
theorem sPs_at : ∀ p x y : Nat, p < 4 → x < 6 → y < 6 → zor (zshl ((p / 2 : Nat) : Int) (x : Int)) (zshl ((p % 2 : Nat) : Int) (y : Int)) = (sPs p x y : Int) ∧ sPs p x y < 64 := by
  have h : ∀ p : Fin 4, ∀ x : Fin 6, ∀ y : Fin 6, zor (zshl ((p.val / 2 : Nat) : Int) ((x.val : Nat) : Int)) (zshl ((p.val % 2 : Nat) : Int) ((y.val : Nat) : Int)) = (sPs p.val x.val y.val : Int) ∧ sPs p.val x.val y.val < 64 := by decide +kernel
  exact fun p x y hp hx hy => h ⟨p, hp⟩ ⟨x, hx⟩ ⟨y, hy⟩
/-- the pairs' sets, one turned -/
theorem sPs_turn : ∀ p x y g : Nat, p < 4 → x < 6 → y < 6 → g < 6 → x ≠ y → (2 ^ x ||| 2 ^ y).testBit g = true → ∃ q, q < 4 ∧ sPs p x y ^^^ 2 ^ g = sPs q x y := by
  have h : ∀ p : Fin 4, ∀ x : Fin 6, ∀ y : Fin 6, ∀ g : Fin 6, x.val ≠ y.val → (2 ^ x.val ||| 2 ^ y.val).testBit g.val = true → ∃ q : Fin 4, sPs p.val x.val y.val ^^^ 2 ^ g.val = sPs q.val x.val y.val := by decide +kernel
  intro p x y g hp hx hy hg hne hb
  obtain ⟨q, hq⟩ := h ⟨p, hp⟩ ⟨x, hx⟩ ⟨y, hy⟩ ⟨g, hg⟩ hne hb
  exact ⟨q.val, q.isLt, hq⟩
def sBl (A : zAft) (x y : Nat) : Nat → Bool := fun p => sRf A (sPs p x y) (2 ^ x ||| 2 ^ y) (sG A)
def sBa (A : zAft) (x y : Nat) : Int := if sFst (sBl A x y) 4 = 4 then -9 else 10 * ((sFst (sBl A x y) 4 / 2 : Nat) : Int) + ((sFst (sBl A x y) 4 % 2 : Nat) : Int)
/-- from the greatest set down: how many at rest, the least so far -/
def sAq (A : zAft) (s : Nat) : Bool := decide (s &&& sSn A 0 (sG A) = s) && sRf A s (sSn A 0 (sG A)) (sG A)
def sAc (A : zAft) : Nat → Int
  | 0 => 0
  | n + 1 => if sAq A (63 - n) then sAc A n + 1 else sAc A n
def sAl (A : zAft) : Nat → Int
  | 0 => -9
  | n + 1 => if sAq A (63 - n) then ((63 - n : Nat) : Int) else sAl A n
