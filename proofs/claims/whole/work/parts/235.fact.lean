/-! what the two sides find is the same -/
theorem zwr_w (A : zAft) (r : Nat) (i u v : Int) : zwr (zwr A r i u) r i v = zwr A r i v := by
  funext r' i'; unfold zwr; split <;> rfl
theorem sW_spec (lim : Int) (f : Nat → Int) (b : Int) : ∀ n : Nat, ((∀ k : Nat, k < n → lim ≤ f k) ∧ sW lim f b n = b ∧ sS lim f n = lim) ∨ ∃ k : Nat, k < n ∧ sW lim f b n = k ∧ sS lim f n = f k ∧ f k < lim ∧ (∀ j : Nat, j < k → f k < f j) ∧ ∀ j : Nat, j < n → f k ≤ f j := by
  intro n
  induction n with
  | zero => exact Or.inl ⟨fun k h => absurd h (by omega), rfl, rfl⟩
  | succ n ih =>
    simp only [sW, sS]
    rcases ih with ⟨h1, h2, h3⟩ | ⟨k, hk, h2, h3, h4, h5, h6⟩
    · by_cases q : f n < sS lim f n
      · rw [if_pos q, if_pos q]
        refine Or.inr ⟨n, by omega, rfl, rfl, by omega, fun j hj => ?_, fun j hj => ?_⟩
        · have := h1 j hj; omega
        · by_cases e : j = n
          · subst e; omega
          · have := h1 j (by omega); omega
      · rw [if_neg q, if_neg q]
        refine Or.inl ⟨fun k hk => ?_, h2, h3⟩
        by_cases e : k = n
        · subst e; omega
        · exact h1 k (by omega)
    · by_cases q : f n < sS lim f n
      · rw [if_pos q, if_pos q]
        refine Or.inr ⟨n, by omega, rfl, rfl, by omega, fun j hj => ?_, fun j hj => ?_⟩
        · have := h6 j hj; omega
        · by_cases e : j = n
          · subst e; omega
          · have := h6 j (by omega); omega
      · rw [if_neg q, if_neg q]
        refine Or.inr ⟨k, by omega, h2, h3, h4, h5, fun j hj => ?_⟩
        by_cases e : j = n
        · subst e; omega
        · exact h6 j (by omega)
theorem sFst_spec (p : Nat → Bool) : ∀ n : Nat, (sFst p n = n ∧ ∀ j : Nat, j < n → p j = false) ∨ ∃ i : Nat, i < n ∧ sFst p n = i ∧ p i = true ∧ ∀ j : Nat, j < i → p j = false := by
  intro n
  induction n with
  | zero => exact Or.inl ⟨rfl, fun j h => absurd h (by omega)⟩
  | succ n ih =>
    rcases ih with ⟨h1, h2⟩ | ⟨i, h1, h2, h3, h4⟩
    · by_cases q : p n = true
      · exact Or.inr ⟨n, by omega, sFst_eq h2 q (n + 1) (by omega), q, h2⟩
      · refine Or.inl ⟨sFst_none (n + 1) ?_, ?_⟩
        all_goals
          intro j hj
          by_cases e : j = n
          · subst e; exact Bool.eq_false_iff.mpr q
          · exact h2 j (by omega)
    · exact Or.inr ⟨i, by omega, sFst_eq h4 h3 (n + 1) (by omega), h3, h4⟩
theorem sGa_spec (A : zAft) : ∀ n : Nat, (sGa A n = -1 ∧ ∀ g : Nat, g < n → A 3 g ≠ 3) ∨ ∃ k : Nat, k < n ∧ sGa A n = k ∧ A 3 k = 3 ∧ ∀ j : Nat, j < k → A 3 j ≠ 3 := by
  intro n
  induction n with
  | zero => exact Or.inl ⟨rfl, fun j h => absurd h (by omega)⟩
  | succ n ih =>
    simp only [sGa]
    rcases ih with ⟨h1, h2⟩ | ⟨i, h1, h2, h3, h4⟩
    · rw [if_neg (by omega)]
      by_cases q : A 3 n = 3
      · rw [if_pos q]; exact Or.inr ⟨n, by omega, rfl, q, h2⟩
      · rw [if_neg q]
        refine Or.inl ⟨rfl, fun g hg => ?_⟩
        by_cases e : g = n
        · subst e; exact q
        · exact h2 g (by omega)
    · rw [if_pos (by omega)]; exact Or.inr ⟨i, by omega, h2, h3, h4⟩
theorem sWh_spec (A : zAft) (x : Int) : (sWh A x = 100 ∧ ∀ q : Nat, q < 100 → sRun A q 3 x ≠ 3) ∨ ∃ i : Nat, i < 100 ∧ sWh A x = i ∧ sRun A i 3 x = 3 ∧ ∀ q : Nat, q < i → sRun A q 3 x ≠ 3 := by
  unfold sWh
  rcases sFst_spec (fun q => decide (sRun A q 3 x = 3)) 100 with ⟨h1, h2⟩ | ⟨i, h1, h2, h3, h4⟩
  · exact Or.inl ⟨h1, fun q hq => of_decide_eq_false (h2 q hq)⟩
  · exact Or.inr ⟨i, h1, h2, of_decide_eq_true h3, fun q hq => of_decide_eq_false (h4 q hq)⟩
theorem gone_eq (A : zAft) : sW 100 (fun g => (sWh A (g : Int) : Int)) (-9) (sG A) = if sFg A = 100 then -9 else sGa (sRun A (sFg A)) (sG A) := by
  have hf : (sFg A = 100 ∧ ∀ q : Nat, q < 100 → sGa (sRun A q) (sG A) < 0) ∨ ∃ i : Nat, i < 100 ∧ sFg A = i ∧ 0 ≤ sGa (sRun A i) (sG A) ∧ ∀ q : Nat, q < i → sGa (sRun A q) (sG A) < 0 := by
    unfold sFg
    rcases sFst_spec (fun q => decide (0 ≤ sGa (sRun A q) (sG A))) 100 with ⟨h1, h2⟩ | ⟨i, h1, h2, h3, h4⟩
    · exact Or.inl ⟨h1, fun q hq => by have := of_decide_eq_false (h2 q hq); omega⟩
    · exact Or.inr ⟨i, h1, h2, of_decide_eq_true h3, fun q hq => by have := of_decide_eq_false (h4 q hq); omega⟩
  have none : ∀ q : Nat, sGa (sRun A q) (sG A) < 0 → ∀ g : Nat, g < sG A → sRun A q 3 g ≠ 3 := by
    intro q hq g hg
    rcases sGa_spec (sRun A q) (sG A) with ⟨h1, h2⟩ | ⟨k, hk, h2, h3, h4⟩
    · exact h2 g hg
    · omega
  rcases hf with ⟨h1, h2⟩ | ⟨i, hi, h1, h2, h3⟩
  · rw [if_pos h1]
    rcases sW_spec 100 (fun g => (sWh A (g : Int) : Int)) (-9) (sG A) with ⟨_, h5, _⟩ | ⟨k, hk, h5, h6, h7, h8, h9⟩
    · exact h5
    · exfalso
      rcases sWh_spec A k with ⟨a1, a2⟩ | ⟨j, a1, a2, a3, a4⟩
      · simp only [a1] at h7; omega
      · exact none j (h2 j a1) k hk a3
  · rw [if_neg (by omega), h1]
    rcases sGa_spec (sRun A i) (sG A) with ⟨a1, _⟩ | ⟨k, hk, a2, a3, a4⟩
    · omega
    have wk : sWh A k = i := by
      rcases sWh_spec A k with ⟨b1, b2⟩ | ⟨j, b1, b2, b3, b4⟩
      · exact absurd a3 (b2 i hi)
      · rcases Nat.lt_trichotomy j i with l | l | l
        · exact absurd b3 (none j (h3 j l) k hk)
        · omega
        · exact absurd a3 (b4 i l)
    have wl : ∀ g : Nat, g < sG A → i ≤ sWh A g ∧ (g < k → i < sWh A g) := by
      intro g hg
      rcases sWh_spec A g with ⟨b1, b2⟩ | ⟨j, b1, b2, b3, b4⟩
      · omega
      · have l : i ≤ j := by
          rcases Nat.lt_or_ge j i with l | l
          · exact absurd b3 (none j (h3 j l) g hg)
          · exact l
        refine ⟨by omega, fun hgk => ?_⟩
        rcases Nat.lt_or_ge i j with l2 | l2
        · omega
        · obtain rfl : j = i := by omega
          exact absurd b3 (a4 g hgk)
    rw [a2]
    rcases sW_spec 100 (fun g => (sWh A (g : Int) : Int)) (-9) (sG A) with ⟨h4, h5, _⟩ | ⟨k', hk', h5, h6, h7, h8, h9⟩
    · have h9 := h4 k hk
      simp only [wk] at h9; omega
    · rw [h5]
      have c1 := h9 k hk
      simp only [wk] at c1
      have c2 := wl k' hk'
      rcases Nat.lt_trichotomy k' k with l | l | l
      · omega
      · rw [l]
      · have c3 := h8 k l
        simp only [wk] at c3; omega
/-! sets as numbers -/
theorem zx64 {a b : Nat} (ha : a < 64) (hb : b < 64) (h : ∀ g : Nat, g < 6 → a.testBit g = b.testBit g) : a = b := by
  apply Nat.eq_of_testBit_eq
  intro i
  by_cases hi : i < 6
  · exact h i hi
  · have h2 : (2 : Nat) ^ 6 ≤ 2 ^ i := Nat.pow_le_pow_right (by omega) (by omega)
    rw [Nat.testBit_lt_two_pow (by omega), Nat.testBit_lt_two_pow (by omega)]
theorem zx_or {a g : Nat} (ha : a < 64) (hg : g < 6) : zor (a : Int) (zshl 1 (g : Int)) = ((a ||| 2 ^ g : Nat) : Int) ∧ a ||| 2 ^ g < 64 := by
  have h2 : (2 : Nat) ^ g < 2 ^ 6 := Nat.pow_lt_pow_right (by omega) hg
  rw [zshl_n g (by omega), zor_n (by omega) (by omega)]
  exact ⟨rfl, Nat.or_lt_two_pow (n := 6) ha h2⟩
theorem zx_del : ∀ a b : Nat, a < 64 → b < 64 → zand (a : Int) (zxor (b : Int) (-1)) = ((a &&& (63 ^^^ b) : Nat) : Int) := by
  have h : ∀ a : Fin 64, ∀ b : Fin 64, zand ((a.val : Nat) : Int) (zxor ((b.val : Nat) : Int) (-1)) = ((a.val &&& (63 ^^^ b.val) : Nat) : Int) := by decide +kernel
  exact fun a b ha hb => h ⟨a, ha⟩ ⟨b, hb⟩
theorem zx_63 : ∀ b g : Nat, b < 64 → g < 6 → (63 ^^^ b).testBit g = !b.testBit g := by
  have h : ∀ b : Fin 64, ∀ g : Fin 6, (63 ^^^ b.val).testBit g.val = !b.val.testBit g.val := by decide +kernel
  exact fun b g hb hg => h ⟨b, hb⟩ ⟨g, hg⟩
/-- a set v whose members are told by p -/
def zSe (v : Int) (p : Nat → Prop) : Prop := ∃ a : Nat, v = (a : Int) ∧ a < 64 ∧ ∀ g : Nat, g < 6 → (a.testBit g = true ↔ p g)
theorem zSe.eq {v w : Int} {p q : Nat → Prop} (h : zSe v p) (h2 : zSe w q) (e : ∀ g : Nat, g < 6 → (p g ↔ q g)) : v = w := by
  obtain ⟨a, rfl, ha, h3⟩ := h
  obtain ⟨b, rfl, hb, h4⟩ := h2
  rw [zx64 ha hb (fun g hg => by rw [Bool.eq_iff_iff, h3 g hg, h4 g hg]; exact e g hg)]
theorem zSe.put {v : Int} {p q : Nat → Prop} {n : Nat} (h : zSe v p) (hn : n < 6) (e : ∀ g : Nat, g < 6 → (q g ↔ p g ∨ g = n)) : zSe (zor v (zshl 1 (n : Int))) q := by
  obtain ⟨a, rfl, ha, h3⟩ := h
  have h4 := zx_or ha hn
  refine ⟨_, h4.1, h4.2, fun g hg => ?_⟩
  rw [Nat.testBit_or, Nat.testBit_two_pow, Bool.or_eq_true, h3 g hg, e g hg, decide_eq_true_eq]
  exact or_congr Iff.rfl ⟨fun h => h.symm, fun h => h.symm⟩
theorem zSe.del {v w : Int} {p q : Nat → Prop} (h : zSe v p) (h2 : zSe w q) : zSe (zand v (zxor w (-1))) (fun g => p g ∧ ¬ q g) := by
  obtain ⟨a, rfl, ha, h3⟩ := h
  obtain ⟨b, rfl, hb, h4⟩ := h2
  refine ⟨_, zx_del a b ha hb, Nat.lt_of_le_of_lt Nat.and_le_left ha, fun g hg => ?_⟩
  rw [Nat.testBit_and, zx_63 b g hb hg, Bool.and_eq_true, h3 g hg, Bool.not_eq_true', ← Bool.not_eq_true, h4 g hg]
theorem zSe.or {v w : Int} {p q : Nat → Prop} (h : zSe v p) (h2 : zSe w q) : zSe (zor v w) (fun g => p g ∨ q g) := by
  obtain ⟨a, rfl, ha, h3⟩ := h
  obtain ⟨b, rfl, hb, h4⟩ := h2
  refine ⟨_, zor_n (by omega) (by omega), Nat.or_lt_two_pow (n := 6) ha hb, fun g hg => ?_⟩
  rw [Nat.testBit_or, Bool.or_eq_true, h3 g hg, h4 g hg]
theorem zSe.cg {v : Int} {p q : Nat → Prop} (h : zSe v p) (e : ∀ g : Nat, g < 6 → (p g ↔ q g)) : zSe v q := by
  obtain ⟨a, h1, h2, h3⟩ := h
  exact ⟨a, h1, h2, fun g hg => (h3 g hg).trans (e g hg)⟩
theorem zSe.e0 : zSe 0 (fun _ => False) := ⟨0, rfl, by omega, fun g _ => by simp⟩
theorem sSet_se (A : zAft) (s : Int) {n : Nat} (hn : n ≤ 6) : zSe (sSet A s n) (fun g => g < n ∧ A 3 g = s) :=
  ⟨sSn A s n, sSet_n A s n hn, sSn_64 A s hn, fun g _ => by rw [sSn_bit]; simp⟩
theorem zSe.in {v : Int} {p : Nat → Prop} (h : zSe v p) : 0 ≤ v ∧ v < 64 := by obtain ⟨a, rfl, h2, _⟩ := h; omega
theorem zSe.bit {v : Int} {p : Nat → Prop} (h : zSe v p) {g : Nat} (hg : g < 6) : sBit v g = 1 ↔ p g := by
  obtain ⟨a, rfl, h2, h3⟩ := h
  rw [sBit_n a g h2 hg, ← h3 g hg]
  cases a.testBit g <;> simp
theorem sN0_se (A : zAft) : ∀ n : Nat, n ≤ 6 → zSe (sN0 A n) (fun g => g < n ∧ A 5 g = 0) := by
  intro n
  induction n with
  | zero => intro _; exact zSe.e0.cg (fun g _ => ⟨fun h => h.elim, fun h => by omega⟩)
  | succ n ih =>
    intro hn
    simp only [sN0]
    split
    next h => exact (ih (by omega)).put (by omega) (fun g _ => ⟨fun z => by
      by_cases e : g = n
      · exact Or.inr e
      · exact Or.inl ⟨by omega, z.2⟩, fun z => by
      rcases z with z | z
      · exact ⟨by omega, z.2⟩
      · subst z; exact ⟨by omega, h⟩⟩)
    next h => exact (ih (by omega)).cg (fun g _ => ⟨fun z => ⟨by omega, z.2⟩, fun z => ⟨by
      by_cases e : g = n
      · subst e; exact absurd z.2 h
      · omega, z.2⟩⟩)
theorem sNv_se {A : zAft} (hG : sG A ≤ 6) : ∀ n : Nat, zSe (sNv A n) (fun g => (g < sG A ∧ A 5 g = 0) ∧ ∀ q : Nat, q < n → sRun A q 3 g ≠ 2) := by
  intro n
  induction n with
  | zero => exact (sN0_se A _ hG).cg (fun g _ => ⟨fun h => ⟨h, fun q hq => absurd hq (by omega)⟩, fun h => h.1⟩)
  | succ n ih =>
    refine (ih.del (sSet_se (sRun A n) 2 hG)).cg (fun g _ => ⟨fun h => ⟨h.1.1, fun q hq => ?_⟩, fun h => ⟨⟨h.1, fun q hq => h.2 q (by omega)⟩, fun z => h.2 n (by omega) z.2⟩⟩)
    by_cases e : q = n
    · subst e; exact fun z => h.2 ⟨h.1.1.1, z⟩
    · exact h.1.2 q (by omega)
theorem sDr_spec (A : zAft) (x : Int) : (sDr A x = 100 ∧ ∀ q : Nat, q < 100 → sRun A q 3 x ≠ 2) ∨ (sDr A x < 100 ∧ ∃ q : Nat, q < 100 ∧ sRun A q 3 x = 2) := by
  unfold sDr
  rcases sFst_spec (fun q => decide (sRun A q 3 x = 2)) 100 with ⟨h1, h2⟩ | ⟨i, h1, h2, h3, h4⟩
  · exact Or.inl ⟨h1, fun q hq => of_decide_eq_false (h2 q hq)⟩
  · exact Or.inr ⟨by omega, i, h1, of_decide_eq_true h3⟩
theorem s9_neg (A : zAft) (x : Int) : s9 (sDr A x) < 0 ↔ ∀ q : Nat, q < 100 → sRun A q 3 x ≠ 2 := by
  unfold s9
  rcases sDr_spec A x with ⟨h1, h2⟩ | ⟨h1, q, h2, h3⟩
  · rw [if_pos (by omega)]; exact ⟨fun _ => h2, fun _ => by omega⟩
  · rw [if_neg (by omega)]; exact ⟨fun h => by omega, fun h => absurd h3 (h q h2)⟩
/-! who is gone stays so -/
theorem sFor_gone {A : zAft} {g : Int} (h : A 3 g = 3) : sFor A g = A := by
  unfold sFor; rw [if_neg (by omega), if_neg (by omega), if_neg (by omega)]
theorem sForN_gone {A : zAft} {x : Int} (h : A 3 x = 3) : ∀ n : Nat, sForN A n 3 x = 3 := by
  intro n
  induction n with
  | zero => exact h
  | succ n ih =>
    show sFor (sForN A n) n 3 x = 3
    by_cases e : x = (n : Int)
    · rw [← e, sFor_gone ih]; exact ih
    · rw [sFor_ne _ e]; exact ih
theorem sPn_gone {x : Int} : ∀ (n : Nat) {A : zAft}, A 3 x = 3 → sPn A n 3 x = 3 := by
  intro n
  induction n with
  | zero => intro A h; exact h
  | succ n ih =>
    intro A h
    simp only [sPn]
    split
    · exact h
    · refine ih ?_
      unfold sP1
      split
      · exact h
      next h1 =>
        rw [zwr_r (by decide), zwr_i]
        · exact h
        · intro e
          rw [e] at h
          unfold sPr at h h1
          split at h
          next => simp at h1; omega
          next h2 =>
            rcases sNx_in A (sG A) with q | q
            · rw [if_neg h2] at h1; omega
            · omega
theorem sMin_gone {A : zAft} {x : Int} (h : A 3 x = 3) : sMin A 3 x = 3 := by
  refine sPn_gone 6 (sForN_gone ?_ _)
  rw [zwr_r (by decide)]; exact h
theorem sRun_gone {A : zAft} {x : Int} {m : Nat} (h : sRun A m 3 x = 3) : ∀ n : Nat, m ≤ n → sRun A n 3 x = 3 := by
  intro n
  induction n with
  | zero => intro hm; obtain rfl : m = 0 := by omega
            exact h
  | succ n ih =>
    intro hm
    by_cases e : m = n + 1
    · subst e; exact h
    · exact sMin_gone (ih (by omega))
theorem sWh_100 (A : zAft) (x : Int) : sWh A x = 100 ↔ sRun A 99 3 x ≠ 3 := by
  rcases sWh_spec A x with ⟨h1, h2⟩ | ⟨i, h1, h2, h3, h4⟩
  · exact ⟨fun _ => h2 99 (by omega), fun _ => h1⟩
  · exact ⟨fun h => by omega, fun h => absurd (sRun_gone h3 99 (by omega)) h⟩
/-- the model's set of those who never drink, and of those who stay -/
def sTsq (A : zAft) (w : Int) : Nat → Int
  | 0 => 0
  | n + 1 => if (w = 0 ∧ s9 (sDr A n) < 0 ∧ A 5 n = 0) ∨ (w ≠ 0 ∧ sWh A n = 100) then zor (sTsq A w n) (zshl 1 n) else sTsq A w n
theorem sTsq_se (A : zAft) (w : Int) : ∀ n : Nat, n ≤ 6 → zSe (sTsq A w n) (fun g => g < n ∧ ((w = 0 ∧ s9 (sDr A g) < 0 ∧ A 5 g = 0) ∨ (w ≠ 0 ∧ sWh A g = 100))) := by
  intro n
  induction n with
  | zero => intro _; exact zSe.e0.cg (fun g _ => ⟨fun h => h.elim, fun h => by omega⟩)
  | succ n ih =>
    intro hn
    simp only [sTsq]
    split
    next h => exact (ih (by omega)).put (by omega) (fun g _ => ⟨fun z => by
      by_cases e : g = n
      · exact Or.inr e
      · exact Or.inl ⟨by omega, z.2⟩, fun z => by
      rcases z with z | z
      · exact ⟨by omega, z.2⟩
      · subst z; exact ⟨by omega, h⟩⟩)
    next h => exact (ih (by omega)).cg (fun g _ => ⟨fun z => ⟨by omega, z.2⟩, fun z => ⟨by
      by_cases e : g = n
      · subst e; exact absurd z.2 h
      · omega, z.2⟩⟩)
theorem thirsty_eq {b : Int} {A : zAft} (hA : zOk b A) (w : Int) : sTsq A w (sG A) = if w = 0 then sNv A 100 else zor (zor (sSet (sRun A 99) 0 (sG A)) (sSet (sRun A 99) 1 (sG A))) (sSet (sRun A 99) 2 (sG A)) := by
  have hG := sG_le hA.1
  split
  next hw =>
    subst hw
    refine (sTsq_se A 0 _ (by omega)).eq (sNv_se (by omega) 100) (fun g _ => ⟨fun h => ?_, fun h => ?_⟩)
    · rcases h.2 with z | z
      · exact ⟨⟨h.1, z.2.2⟩, (s9_neg A g).mp z.2.1⟩
      · exact absurd rfl z.1
    · exact ⟨h.1.1, Or.inl ⟨rfl, (s9_neg A g).mpr h.2, h.1.2⟩⟩
  next hw =>
    refine (sTsq_se A w _ (by omega)).eq (((sSet_se _ 0 (by omega)).or (sSet_se _ 1 (by omega))).or (sSet_se _ 2 (by omega))) (fun g hg => ⟨fun h => ?_, fun h => ?_⟩)
    · rcases h.2 with z | z
      · exact absurd z.1 hw
      · have h3 := (sWh_100 A g).mp z.2
        have h4 := (sRun_ok hA 99).2 g (by omega) (by omega)
        unfold zG at h4
        rcases (by omega : sRun A 99 3 g = 0 ∨ sRun A 99 3 g = 1 ∨ sRun A 99 3 g = 2) with e | e | e
        · exact Or.inl (Or.inl ⟨h.1, e⟩)
        · exact Or.inl (Or.inr ⟨h.1, e⟩)
        · exact Or.inr ⟨h.1, e⟩
    · rcases h with (z | z) | z
      all_goals exact ⟨z.1, Or.inr ⟨hw, (sWh_100 A g).mpr (by rw [z.2]; decide)⟩⟩
theorem sMany_6 (A : zAft) (s i v : Int) (hi : i ≠ 0) : sMany (zwr A 6 i v) s = sMany A s := by
  unfold sMany
  rw [show sG (zwr A 6 i v) = sG A by unfold sG; rw [zwr_i (by omega)]]
  exact sCnt_c (zwr_row rfl) s _
theorem sG_w {A : zAft} {r : Nat} {i v : Int} (h : r ≠ 6 ∨ i ≠ 0) : sG (zwr A r i v) = sG A := by
  unfold sG
  rcases h with h | h
  · rw [zwr_r (by omega)]
  · rw [zwr_i (by omega)]
theorem sRi_G (A : zAft) (s : Int) (n : Nat) : sG (sRi A s n) = sG A := by unfold sG; rw [sRi_6]
theorem zSit_of {A : zAft} {s : Nat} (hG : sG A ≤ 6) (hs : s < 64) (h : s &&& sSn A 0 (sG A) = s) : zSit A s := by
  refine ⟨hs, fun g hg hb => ?_⟩
  rw [← h, Nat.testBit_and, sSn_bit] at hb
  simp at hb
  exact hb.2.2
theorem sRg_out {A : zAft} (hG : sG A ≤ 6) {k : Nat} (hk : k < 64) (h : sSn A 0 (sG A) < k) : (100 : Int) ≤ sRg A k := by
  unfold sRg
  rw [sSet_n A 0 _ hG, if_neg]
  · omega
  · rw [zsub_n k _ hk (sSn_64 A 0 hG)]
    intro e
    have := Nat.and_le_right (n := k) (m := sSn A 0 (sG A))
    omega
