/-! what an afternoon does, in whole numbers: A 0 kind, 1 figure, 2 thirst, 3 state, 4 stood, 5 had; A 6: guests, cups, rule, minute, poured -/
def sLim (k f : Int) : Int := if k = 1 then (4 + f) / 2 else if k = 2 then 4 + f + 10 else if k = 3 then (4 + f) / 2 + 2 else if k = 4 then 1 else if k = 5 then 99 else 4 + f
def sPat (k f : Int) : Int := if k = 1 then 3 + f else if k = 2 then 6 else if k = 3 then 3 + f else if k = 4 then 2 else if k = 5 then 6 else 3
def sSip (k : Int) : Int := if k = 3 then 1 else if k = 4 then 5 else 2
def sEno (k f : Int) : Int := if k = 1 then 1 + f / 3 else if k = 3 then 2 + f / 3 else 1
def sT1 (t : Int) : Int := if t + 1 ≤ 30 then t + 1 else 30
def sT2 (t : Int) : Int := if 0 ≤ t then t else 0
def sFor (A : zAft) (g : Int) : zAft :=
  if A 3 g = 0 then
    if sLim (A 0 g) (A 1 g) ≤ sT1 (A 2 g) then zwr (zwr (zwr A 2 g (sT1 (A 2 g))) 3 g 1) 4 g 0 else zwr A 2 g (sT1 (A 2 g))
  else if A 3 g = 1 then
    if sPat (A 0 g) (A 1 g) < A 4 g + 1 then zwr (zwr A 4 g (A 4 g + 1)) 3 g 3 else zwr A 4 g (A 4 g + 1)
  else if A 3 g = 2 then
    if 0 < sT2 (A 2 g - sSip (A 0 g)) then zwr A 2 g (sT2 (A 2 g - sSip (A 0 g)))
    else zwr (zwr (zwr A 2 g (sT2 (A 2 g - sSip (A 0 g)))) 5 g (A 5 g + 1)) 3 g (if sEno (A 0 g) (A 1 g) ≤ A 5 g + 1 then 3 else 0)
  else A
def sForN (A : zAft) : Nat → zAft
  | 0 => A
  | n + 1 => sFor (sForN A n) n
def sG (A : zAft) : Nat := (A 6 0).toNat
def sUns (A : zAft) : zAft := sForN (zwr A 6 3 (A 6 3 + 1)) (sG A)
def sCnt (A : zAft) (s : Int) : Nat → Int
  | 0 => 0
  | n + 1 => sCnt A s n + if A 3 n = s then 1 else 0
def sMany (A : zAft) (s : Int) : Int := sCnt A s (sG A)
def sAh (A : zAft) (g b : Int) : Bool := if A 6 2 = 0 then decide (A 4 b < A 4 g) else if A 6 2 = 1 then decide (A 2 b < A 2 g) else decide (A 6 2 = 3)
def sNx (A : zAft) : Nat → Int
  | 0 => -1
  | n + 1 => if A 3 n = 1 ∧ (sNx A n < 0 ∨ sAh A n (sNx A n) = true) then n else sNx A n
def sPr (A : zAft) : Int := if A 6 1 ≤ sMany A 2 then -1 else sNx A (sG A)
def sP1 (A : zAft) : zAft := if sPr A < 0 then A else zwr (zwr A 3 (sPr A) 2) 6 4 (A 6 4 + 1)
def sPn (A : zAft) : Nat → zAft
  | 0 => A
  | n + 1 => if sPr A < 0 then A else sPn (sP1 A) n
def sMin (A : zAft) : zAft := sPn (sUns A) 6
def sRun (A : zAft) : Nat → zAft
  | 0 => A
  | n + 1 => sMin (sRun A n)

def zG (A : zAft) (g : Int) : Prop := (0 ≤ A 0 g ∧ A 0 g ≤ 5) ∧ (0 ≤ A 1 g ∧ A 1 g ≤ 9) ∧ (0 ≤ A 2 g ∧ A 2 g ≤ 30) ∧ (0 ≤ A 3 g ∧ A 3 g ≤ 3) ∧ (0 ≤ A 4 g ∧ A 4 g ≤ 13) ∧ (A 3 g = 1 → A 4 g ≤ 12) ∧ (0 ≤ A 5 g ∧ A 5 g ≤ 5) ∧ (A 3 g ≠ 3 → A 5 g ≤ 4)
def zH (b : Int) (A : zAft) : Prop := (0 ≤ A 6 0 ∧ A 6 0 ≤ 6) ∧ (1 ≤ A 6 1 ∧ A 6 1 ≤ 5) ∧ (0 ≤ A 6 2 ∧ A 6 2 ≤ 3) ∧ (0 ≤ A 6 3 ∧ A 6 3 ≤ b) ∧ (0 ≤ A 6 4 ∧ A 6 4 ≤ 6 * A 6 3)
def zOk (b : Int) (A : zAft) : Prop := zH b A ∧ ∀ g, 0 ≤ g → g < 6 → zG A g
theorem zwr_row {A : zAft} {r r' : Nat} {i v : Int} (h : (r' == r) = false) : zwr A r i v r' = A r' := by
  have h9 : r' ≠ r := by simpa using h
  funext i'; simp [zwr, h9]
theorem zwr_id (A : zAft) (r : Nat) (i : Int) : zwr A r i (A r i) = A := by
  funext r' i'; by_cases h : r' = r ∧ i' = i
  · obtain ⟨rfl, rfl⟩ := h; simp [zwr]
  · simp only [zwr, if_neg h]
-- reading a row that was written
theorem zr0 {A : zAft} {r : Nat} {i v : Int} : zwr A r i v r i = v := by simp [zwr]
theorem zr1 {A : zAft} {r r' : Nat} {i i' v w : Int} (h : (r' == r) = false) (e : A r' i' = w) : zwr A r i v r' i' = w := by rw [zwr_row h]; exact e
theorem zr2 {A : zAft} {r : Nat} {i i' v w : Int} (h : i' ≠ i) (e : A r i' = w) : zwr A r i v r i' = w := by rw [zwr_i h]; exact e
theorem zga {M : zMem} {m : Nat} {A : zAft} {r : Nat} {i w : Int} (e : A r i = w) : zs M m A m r i = w := by rw [zs_self]; exact e
theorem sSip_in (k : Int) : 1 ≤ sSip k ∧ sSip k ≤ 5 := by unfold sSip; split <;> (try split) <;> omega
theorem sPat_in {k f : Int} (h : 0 ≤ f ∧ f ≤ 9) : 2 ≤ sPat k f ∧ sPat k f ≤ 12 := by
  unfold sPat; repeat' split
  all_goals omega
theorem sLim_in {k f : Int} (h : 0 ≤ f ∧ f ≤ 9) : 1 ≤ sLim k f ∧ sLim k f ≤ 99 := by
  unfold sLim; repeat' split
  all_goals omega
theorem sEno_in {k f : Int} (h : 0 ≤ f ∧ f ≤ 9) : 1 ≤ sEno k f ∧ sEno k f ≤ 5 := by
  unfold sEno; repeat' split
  all_goals omega
theorem sFor_6 (A : zAft) (g : Int) : sFor A g 6 = A 6 := by
  unfold sFor; repeat' split
  all_goals first | rfl | simp only [zwr_row (r' := 6) (r := 2) rfl, zwr_row (r' := 6) (r := 3) rfl, zwr_row (r' := 6) (r := 4) rfl, zwr_row (r' := 6) (r := 5) rfl]
theorem sFor_0 (A : zAft) (g : Int) : sFor A g 0 = A 0 := by
  unfold sFor; repeat' split
  all_goals first | rfl | simp only [zwr_row (r' := 0) (r := 2) rfl, zwr_row (r' := 0) (r := 3) rfl, zwr_row (r' := 0) (r := 4) rfl, zwr_row (r' := 0) (r := 5) rfl]
theorem sFor_1 (A : zAft) (g : Int) : sFor A g 1 = A 1 := by
  unfold sFor; repeat' split
  all_goals first | rfl | simp only [zwr_row (r' := 1) (r := 2) rfl, zwr_row (r' := 1) (r := 3) rfl, zwr_row (r' := 1) (r := 4) rfl, zwr_row (r' := 1) (r := 5) rfl]
theorem sFor_ne (A : zAft) {g i : Int} (h : i ≠ g) (r : Nat) : sFor A g r i = A r i := by
  unfold sFor; repeat' split
  all_goals simp only [zwr, h, and_false, if_false]
theorem sFor_G {A : zAft} {g : Int} (h : zG A g) : zG (sFor A g) g := by
  have h9 := h
  obtain ⟨h0, h1, h2, h3, h4, h5, h6, h7⟩ := h
  have p1 := sSip_in (A 0 g)
  have p2 := sPat_in (k := A 0 g) h1
  have p3 := sEno_in (k := A 0 g) h1
  have t1 : 0 ≤ sT1 (A 2 g) ∧ sT1 (A 2 g) ≤ 30 := by unfold sT1; split <;> omega
  have t2 : 0 ≤ sT2 (A 2 g - sSip (A 0 g)) ∧ sT2 (A 2 g - sSip (A 0 g)) ≤ 30 := by unfold sT2; split <;> omega
  unfold sFor
  split
  · split
    · simp [zG, zwr]; omega
    · simp [zG, zwr]; omega
  · split
    · split
      · simp [zG, zwr]; omega
      · simp [zG, zwr]; omega
    · split
      · split
        · simp [zG, zwr]; omega
        · split
          · simp [zG, zwr]; omega
          · simp [zG, zwr]; omega
      · exact h9
theorem zG_eq {A B : zAft} {g : Int} (h : zG A g) (e : ∀ r, r < 6 → B r g = A r g) : zG B g := by
  unfold zG
  rw [e 0 (by omega), e 1 (by omega), e 2 (by omega), e 3 (by omega), e 4 (by omega), e 5 (by omega)]
  exact h
theorem zH_eq {b : Int} {A B : zAft} (h : zH b A) (e : B 6 = A 6) : zH b B := by unfold zH; rw [e]; exact h
theorem sFor_ok {b : Int} {A : zAft} (h : zOk b A) {g : Int} (g0 : 0 ≤ g) (g1 : g < 6) : zOk b (sFor A g) := by
  refine ⟨zH_eq h.1 (sFor_6 A g), fun i i0 i1 => ?_⟩
  by_cases hi : i = g
  · subst hi; exact sFor_G (h.2 i i0 i1)
  · exact zG_eq (h.2 i i0 i1) (fun r _ => sFor_ne A hi r)
theorem sForN_ok {b : Int} {A : zAft} (h : zOk b A) : ∀ n : Nat, n ≤ 6 → zOk b (sForN A n) := by
  intro n
  induction n with
  | zero => intro _; exact h
  | succ n ih => intro hn; exact sFor_ok (ih (by omega)) (by omega) (by omega)
theorem sForN_6 (A : zAft) : ∀ n : Nat, sForN A n 6 = A 6 := by
  intro n
  induction n with
  | zero => rfl
  | succ n ih => show sFor (sForN A n) n 6 = A 6; rw [sFor_6, ih]
theorem sForN_0 (A : zAft) : ∀ n : Nat, sForN A n 0 = A 0 := by
  intro n
  induction n with
  | zero => rfl
  | succ n ih => show sFor (sForN A n) n 0 = A 0; rw [sFor_0, ih]
theorem sForN_1 (A : zAft) : ∀ n : Nat, sForN A n 1 = A 1 := by
  intro n
  induction n with
  | zero => rfl
  | succ n ih => show sFor (sForN A n) n 1 = A 1; rw [sFor_1, ih]
theorem sG_le {b : Int} {A : zAft} (h : zH b A) : sG A ≤ 6 ∧ (sG A : Int) = A 6 0 := by
  have := h.1
  unfold sG; omega
theorem sUns_ok {b : Int} {A : zAft} (h : zOk b A) : zOk (b + 1) (sUns A) := by
  have h1 : zOk (b + 1) (zwr A 6 3 (A 6 3 + 1)) := by
    refine ⟨?_, fun g g0 g1 => zG_eq (h.2 g g0 g1) (fun r hr => zwr_r (by omega))⟩
    have := h.1
    unfold zH at this ⊢
    simp [zwr]; omega
  exact sForN_ok h1 _ (sG_le h.1).1
theorem sUns_6 (A : zAft) (i : Int) : sUns A 6 i = if i = 3 then A 6 3 + 1 else A 6 i := by
  unfold sUns; rw [sForN_6]; simp [zwr]
theorem sUns_0 (A : zAft) : sUns A 0 = A 0 := by unfold sUns; rw [sForN_0, zwr_row rfl]
theorem sUns_1 (A : zAft) : sUns A 1 = A 1 := by unfold sUns; rw [sForN_1, zwr_row rfl]
theorem sUns_G (A : zAft) : sG (sUns A) = sG A := by unfold sG; rw [sUns_6]; rfl
theorem sCnt_in (A : zAft) (s : Int) : ∀ n : Nat, 0 ≤ sCnt A s n ∧ sCnt A s n ≤ n := by
  intro n
  induction n with
  | zero => simp [sCnt]
  | succ n ih => simp only [sCnt]; split <;> omega
theorem sNx_in (A : zAft) : ∀ n : Nat, (sNx A n = -1 ∧ ∀ g : Nat, g < n → A 3 g ≠ 1) ∨ (0 ≤ sNx A n ∧ sNx A n < n ∧ A 3 (sNx A n) = 1) := by
  intro n
  induction n with
  | zero => exact Or.inl ⟨rfl, fun g h => absurd h (by omega)⟩
  | succ n ih =>
    simp only [sNx]
    split
    next h => exact Or.inr ⟨by omega, by omega, h.1⟩
    next h =>
      rcases ih with ⟨h1, h2⟩ | h1
      · refine Or.inl ⟨h1, fun g hg => ?_⟩
        by_cases e : g = n
        · subst e; intro h3; exact h ⟨h3, Or.inl (by omega)⟩
        · exact h2 g (by omega)
      · exact Or.inr ⟨h1.1, by omega, h1.2.2⟩
theorem sPr_in {b : Int} {A : zAft} (h : zH b A) : sPr A = -1 ∨ (0 ≤ sPr A ∧ sPr A < A 6 0 ∧ A 3 (sPr A) = 1 ∧ sMany A 2 < A 6 1) := by
  have := sG_le h
  unfold sPr
  split
  next => exact Or.inl rfl
  next h1 =>
    rcases sNx_in A (sG A) with h2 | h2
    · exact Or.inl h2.1
    · exact Or.inr ⟨h2.1, by omega, h2.2.2, by omega⟩
theorem sP1_ok {b : Int} {A : zAft} (h : zOk b A) (hp : A 6 4 + 1 ≤ 6 * A 6 3) : zOk b (sP1 A) := by
  unfold sP1
  split
  next => exact h
  next h1 =>
    have h6 := h.1
    rcases sPr_in h.1 with h2 | h2
    · omega
    refine ⟨?_, fun g g0 g1 => ?_⟩
    · unfold zH at h6 ⊢
      simp [zwr]; omega
    · have hg := h.2 g g0 g1
      by_cases e : g = sPr A
      · subst e
        unfold zG at hg ⊢
        simp [zwr]; omega
      · exact zG_eq hg (fun r hr => by rw [zwr_r (by omega), zwr_i e])
theorem sP1_6 (A : zAft) (i : Int) (hi : i ≠ 4) : sP1 A 6 i = A 6 i := by
  unfold sP1; split
  · rfl
  · rw [zwr_i hi, zwr_row rfl]
theorem sP1_64 (A : zAft) : A 6 4 ≤ sP1 A 6 4 ∧ sP1 A 6 4 ≤ A 6 4 + 1 := by
  unfold sP1; split
  · omega
  · simp [zwr]; omega
theorem sPn_ok {b : Int} : ∀ (n : Nat) (A : zAft), zOk b A → A 6 4 + n ≤ 6 * A 6 3 → zOk b (sPn A n) := by
  intro n
  induction n with
  | zero => intro A h _; exact h
  | succ n ih =>
    intro A h hp
    simp only [sPn]
    split
    · exact h
    · have h3 := sP1_64 A
      have h4 := sP1_6 A 3 (by omega)
      exact ih _ (sP1_ok h (by omega)) (by omega)
theorem sPn_6 : ∀ (n : Nat) (A : zAft) (i : Int), i ≠ 4 → sPn A n 6 i = A 6 i := by
  intro n
  induction n with
  | zero => intro A i _; rfl
  | succ n ih =>
    intro A i hi
    simp only [sPn]
    split
    · rfl
    · rw [ih _ _ hi, sP1_6 _ _ hi]
theorem sMin_ok {b : Int} {A : zAft} (h : zOk b A) : zOk (b + 1) (sMin A) := by
  refine sPn_ok 6 _ (sUns_ok h) ?_
  have := h.1
  unfold zH at this
  rw [sUns_6, sUns_6]; simp; omega
theorem sMin_6 (A : zAft) (i : Int) (h3 : i ≠ 3) (h4 : i ≠ 4) : sMin A 6 i = A 6 i := by
  unfold sMin; rw [sPn_6 _ _ _ h4, sUns_6, if_neg h3]
theorem sRun_ok {b : Int} {A : zAft} (h : zOk b A) : ∀ n : Nat, zOk (b + n) (sRun A n) := by
  intro n
  induction n with
  | zero => simpa [sRun] using h
  | succ n ih =>
    have := sMin_ok ih
    rw [show b + ((n + 1 : Nat) : Int) = b + n + 1 by omega]
    exact this
theorem sRun_6 (A : zAft) (i : Int) (h3 : i ≠ 3) (h4 : i ≠ 4) : ∀ n : Nat, sRun A n 6 i = A 6 i := by
  intro n
  induction n with
  | zero => rfl
  | succ n ih => show sMin (sRun A n) 6 i = A 6 i; rw [sMin_6 _ _ h3 h4, ih]
theorem sRun_G (A : zAft) (n : Nat) : sG (sRun A n) = sG A := by unfold sG; rw [sRun_6 A 0 (by omega) (by omega)]
theorem zR_lit {a : Int} (h : (decide (-2147483648 ≤ a) && decide (a < 2147483648)) = true) : zR a := by simpa [zR] using h
theorem zdiv_pos {a b : Int} (ha : zR a) (h0 : 0 ≤ a) (hb : zR b) (h1 : 0 < b) : zdiv a b = a / b := by
  unfold zdiv
  rw [Int32.toInt_div_of_ne_left _ _ (by
    intro h
    have := congrArg Int32.toInt h
    rw [zii_toInt ha] at this
    have e : Int32.minValue.toInt = -2147483648 := by decide
    omega), zii_toInt ha, zii_toInt hb]
  exact Int.tdiv_eq_ediv_of_nonneg h0
def sRise (A : zAft) (g : Int) : zAft := zwr (zwr A 3 g 1) 4 g 0
def sCome (A : zAft) (k f t : Int) : zAft := zwr (zwr (zwr (zwr (zwr (zwr (zwr A 0 (A 6 0) k) 1 (A 6 0) f) 2 (A 6 0) t) 3 (A 6 0) 0) 4 (A 6 0) 0) 5 (A 6 0) 0) 6 0 (A 6 0 + 1)
def sBit (s : Int) (g : Int) : Int := zand (zshr s g) 1
def sRi (A : zAft) (s : Int) : Nat → zAft
  | 0 => A
  | n + 1 => if sBit s n = 1 ∧ A 3 n = 0 then sRise (sRi A s n) n else sRi A s n
def sRe (A : zAft) (g w v : Int) : zAft := if w = 0 then zwr A 0 g v else if w = 1 then zwr A 1 g v else zwr A 2 g v
def sSet (A : zAft) (s : Int) : Nat → Int
  | 0 => 0
  | n + 1 => if A 3 n = s then zor (sSet A s n) (zshl 1 n) else sSet A s n
def sTh (A : zAft) : Nat → Int
  | 0 => 0
  | n + 1 => if A 3 n = 3 then sTh A n else sTh A n + A 2 n
def sAll (A : zAft) (o : Int) : Nat → Bool
  | 0 => true
  | n + 1 => sAll A o n && (decide ((n : Int) = o) || decide (A 3 n = 3))
def sFst (p : Nat → Bool) : Nat → Nat
  | 0 => 0
  | n + 1 => if sFst p n < n then sFst p n else if p n then n else n + 1
theorem sFst_none {p : Nat → Bool} : ∀ n, (∀ j, j < n → p j = false) → sFst p n = n := by
  intro n
  induction n with
  | zero => intro _; rfl
  | succ n ih =>
    intro h
    simp only [sFst]
    rw [ih (fun j hj => h j (by omega)), if_neg (by omega), if_neg (by rw [h n (by omega)]; simp)]
theorem sFst_eq {p : Nat → Bool} {i : Nat} (h : ∀ j, j < i → p j = false) (hi : p i = true) : ∀ n, i < n → sFst p n = i := by
  intro n
  induction n with
  | zero => intro h9; omega
  | succ n ih =>
    intro h9
    simp only [sFst]
    by_cases e : i = n
    · subst e
      rw [sFst_none i h, if_neg (by omega), if_pos hi]
    · rw [ih (by omega), if_pos (by omega)]
theorem sFst_le (p : Nat → Bool) : ∀ n, sFst p n ≤ n := by
  intro n
  induction n with
  | zero => exact Nat.le_refl _
  | succ n ih => simp only [sFst]; split <;> (try split) <;> omega
theorem sTh_in {A : zAft} (h : ∀ g, 0 ≤ g → g < 6 → zG A g) : ∀ n : Nat, n ≤ 6 → 0 ≤ sTh A n ∧ sTh A n ≤ 30 * n := by
  intro n
  induction n with
  | zero => intro _; simp [sTh]
  | succ n ih =>
    intro hn
    have h1 := ih (by omega)
    have h2 := (h n (by omega) (by omega)).2.2.1
    simp only [sTh]; split <;> omega
theorem sRise_6 (A : zAft) (g : Int) : sRise A g 6 = A 6 := by unfold sRise; rw [zwr_row rfl, zwr_row rfl]
theorem sRise_ok {b : Int} {A : zAft} (h : zOk b A) {g : Int} (g0 : 0 ≤ g) (g1 : g < 6) (hs : A 3 g ≠ 3) : zOk b (sRise A g) := by
  refine ⟨zH_eq h.1 (sRise_6 A g), fun i i0 i1 => ?_⟩
  have hg := h.2 i i0 i1
  by_cases e : i = g
  · subst e
    unfold zG at hg ⊢
    simp [sRise, zwr]; omega
  · exact zG_eq hg (fun r _ => by unfold sRise; rw [zwr_i e, zwr_i e])
theorem sRi_6 (A : zAft) (s : Int) : ∀ n, sRi A s n 6 = A 6 := by
  intro n
  induction n with
  | zero => rfl
  | succ n ih => simp only [sRi]; split <;> simp [sRise_6, ih]
theorem sRi_ge (A : zAft) (s : Int) : ∀ (n : Nat) (r : Nat) (g : Int), (n : Int) ≤ g → sRi A s n r g = A r g := by
  intro n
  induction n with
  | zero => intro r g _; rfl
  | succ n ih =>
    intro r g hg
    simp only [sRi]
    split
    · unfold sRise; rw [zwr_i (by omega), zwr_i (by omega)]; exact ih r g (by omega)
    · exact ih r g (by omega)
theorem sRi_ok {b : Int} {A : zAft} (h : zOk b A) (s : Int) : ∀ n : Nat, n ≤ 6 → zOk b (sRi A s n) := by
  intro n
  induction n with
  | zero => intro _; exact h
  | succ n ih =>
    intro hn
    simp only [sRi]
    split
    next h1 => exact sRise_ok (ih (by omega)) (by omega) (by omega) (by rw [sRi_ge A s n 3 n (Int.le_refl _), h1.2]; decide)
    next => exact ih (by omega)
theorem sRe_6 (A : zAft) (g w v : Int) : sRe A g w v 6 = A 6 := by
  unfold sRe; repeat' split
  all_goals exact zwr_row rfl
