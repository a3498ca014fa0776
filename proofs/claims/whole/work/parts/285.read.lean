/-! statements in letters -/
abbrev zDg (L : zAft) (x : Int) : Prop := 48 ≤ sAt L x ∧ sAt L x ≤ 57
/-- digits from x on, of d -/
def sDk (L : zAft) (x : Int) (d : Nat) : Nat := sFst (fun j : Nat => !decide (zDg L (x + (j : Int)))) d
theorem sDk_1 (L : zAft) (x : Int) : sDk L x 1 = if zDg L x then 1 else 0 := by
  unfold sDk
  simp only [sFst]
  rw [if_neg (by omega)]
  by_cases h : zDg L x
  · rw [if_pos h, if_neg (by simpa using h)]
  · rw [if_neg h, if_pos (by show (!decide (zDg L (x + ((0 : Nat) : Int)))) = true; rw [show x + ((0 : Nat) : Int) = x by omega, decide_eq_false h]; rfl)]
theorem sDk_2 (L : zAft) (x : Int) : sDk L x 2 = if ¬ zDg L x then 0 else if zDg L (x + 1) then 2 else 1 := by
  unfold sDk
  by_cases h : zDg L x
  · rw [if_neg (not_not_intro h)]
    by_cases h2 : zDg L (x + 1)
    · rw [if_pos h2]
      exact sFst_none 2 (fun j hj => by
        rcases (by omega : j = 0 ∨ j = 1) with e | e <;> subst e
        · simpa using h
        · simpa using h2)
    · rw [if_neg h2]
      exact sFst_eq (i := 1) (fun j hj => by
        obtain rfl : j = 0 := by omega
        simpa using h) (by show (!decide (zDg L (x + ((1 : Nat) : Int)))) = true; rw [show x + ((1 : Nat) : Int) = x + 1 by omega, decide_eq_false h2]; rfl) 2 (by omega)
  · rw [if_pos h]
    exact sFst_eq (i := 0) (fun j hj => absurd hj (by omega)) (by show (!decide (zDg L (x + ((0 : Nat) : Int)))) = true; rw [show x + ((0 : Nat) : Int) = x by omega, decide_eq_false h]; rfl) 2 (by omega)
theorem sNd_dg (L : zAft) (s j : Nat) : sNd L s j = !decide (zDg L ((s : Int) + 1 + j)) := rfl
theorem sWf_g {L : zAft} {s : Nat} (h : sAt L s = 103) : sWf L s = if ¬ zDg L ((s : Int) + 1) then (s : Int) + 1 else if ¬ zDg L ((s : Int) + 2) then (s : Int) + 2 else if ¬ zDg L ((s : Int) + 3) then (s : Int) + 3 else if ¬ zDg L ((s : Int) + 4) then (s : Int) + 4 else if sAt L ((s : Int) + 5) = 59 then -1 else (s : Int) + 5 := by
  have e : sLn (sAt L s) = 6 := by rw [h]; rfl
  unfold sWf
  rw [e, if_neg (by decide)]
  have d0 : (s : Int) + 1 + ((0 : Nat) : Int) = (s : Int) + 1 := by omega
  have d1 : (s : Int) + 1 + ((1 : Nat) : Int) = (s : Int) + 2 := by omega
  have d2 : (s : Int) + 1 + ((2 : Nat) : Int) = (s : Int) + 3 := by omega
  have d3 : (s : Int) + 1 + ((3 : Nat) : Int) = (s : Int) + 4 := by omega
  have n0 := sNd_dg L s 0
  have n1 := sNd_dg L s 1
  have n2 := sNd_dg L s 2
  have n3 := sNd_dg L s 3
  rw [d0] at n0; rw [d1] at n1; rw [d2] at n2; rw [d3] at n3
  by_cases h0 : zDg L ((s : Int) + 1)
  · rw [if_neg (not_not_intro h0)]
    by_cases h1 : zDg L ((s : Int) + 2)
    · rw [if_neg (not_not_intro h1)]
      by_cases h2 : zDg L ((s : Int) + 3)
      · rw [if_neg (not_not_intro h2)]
        by_cases h3 : zDg L ((s : Int) + 4)
        · rw [if_neg (not_not_intro h3)]
          have f : sFst (sNd L s) (6 - 2) = 4 := sFst_none 4 (fun j hj => by
            rcases (by omega : j = 0 ∨ j = 1 ∨ j = 2 ∨ j = 3) with e | e | e | e <;> subst e
            · rw [n0, decide_eq_true h0]; rfl
            · rw [n1, decide_eq_true h1]; rfl
            · rw [n2, decide_eq_true h2]; rfl
            · rw [n3, decide_eq_true h3]; rfl)
          rw [f, if_neg (by decide), show (s : Int) + ((6 : Nat) : Int) - 1 = (s : Int) + 5 by omega]
        · have f : sFst (sNd L s) (6 - 2) = 3 := sFst_eq (i := 3) (fun j hj => by
            rcases (by omega : j = 0 ∨ j = 1 ∨ j = 2) with e | e | e <;> subst e
            · rw [n0, decide_eq_true h0]; rfl
            · rw [n1, decide_eq_true h1]; rfl
            · rw [n2, decide_eq_true h2]; rfl) (by rw [n3, decide_eq_false h3]; rfl) 4 (by omega)
          rw [f, if_pos (by decide), if_pos h3, d3]
      · have f : sFst (sNd L s) (6 - 2) = 2 := sFst_eq (i := 2) (fun j hj => by
          rcases (by omega : j = 0 ∨ j = 1) with e | e <;> subst e
          · rw [n0, decide_eq_true h0]; rfl
          · rw [n1, decide_eq_true h1]; rfl) (by rw [n2, decide_eq_false h2]; rfl) 4 (by omega)
        rw [f, if_pos (by decide), if_pos h2, d2]
    · have f : sFst (sNd L s) (6 - 2) = 1 := sFst_eq (i := 1) (fun j hj => by
        obtain rfl : j = 0 := by omega
        rw [n0, decide_eq_true h0]; rfl) (by rw [n1, decide_eq_false h1]; rfl) 4 (by omega)
      rw [f, if_pos (by decide), if_pos h1, d1]
  · have f : sFst (sNd L s) (6 - 2) = 0 := sFst_eq (i := 0) (fun j hj => absurd hj (by omega)) (by rw [n0, decide_eq_false h0]; rfl) 4 (by omega)
    rw [f, if_pos (by decide), if_pos h0, d0]
theorem sWf_m {L : zAft} {s : Nat} (h : sAt L s = 109) : sWf L s = if ¬ zDg L ((s : Int) + 1) then (s : Int) + 1 else if ¬ zDg L ((s : Int) + 2) then (s : Int) + 2 else if sAt L ((s : Int) + 3) = 59 then -1 else (s : Int) + 3 := by
  have e : sLn (sAt L s) = 4 := by rw [h]; rfl
  unfold sWf
  rw [e, if_neg (by decide)]
  have d0 : (s : Int) + 1 + ((0 : Nat) : Int) = (s : Int) + 1 := by omega
  have d1 : (s : Int) + 1 + ((1 : Nat) : Int) = (s : Int) + 2 := by omega
  have n0 := sNd_dg L s 0
  have n1 := sNd_dg L s 1
  rw [d0] at n0; rw [d1] at n1
  by_cases h0 : zDg L ((s : Int) + 1)
  · rw [if_neg (not_not_intro h0)]
    by_cases h1 : zDg L ((s : Int) + 2)
    · rw [if_neg (not_not_intro h1)]
      have f : sFst (sNd L s) (4 - 2) = 2 := sFst_none 2 (fun j hj => by
        rcases (by omega : j = 0 ∨ j = 1) with e | e <;> subst e
        · rw [n0, decide_eq_true h0]; rfl
        · rw [n1, decide_eq_true h1]; rfl)
      rw [f, if_neg (by decide), show (s : Int) + ((4 : Nat) : Int) - 1 = (s : Int) + 3 by omega]
    · have f : sFst (sNd L s) (4 - 2) = 1 := sFst_eq (i := 1) (fun j hj => by
        obtain rfl : j = 0 := by omega
        rw [n0, decide_eq_true h0]; rfl) (by rw [n1, decide_eq_false h1]; rfl) 2 (by omega)
      rw [f, if_pos (by decide), if_pos h1, d1]
  · have f : sFst (sNd L s) (4 - 2) = 0 := sFst_eq (i := 0) (fun j hj => absurd hj (by omega)) (by rw [n0, decide_eq_false h0]; rfl) 2 (by omega)
    rw [f, if_pos (by decide), if_pos h0, d0]
theorem sWf_o {L : zAft} {s : Nat} (h : sAt L s = 114 ∨ sAt L s = 111 ∨ sAt L s = 99 ∨ sAt L s = 117) : sWf L s = if ¬ zDg L ((s : Int) + 1) then (s : Int) + 1 else if sAt L ((s : Int) + 2) = 59 then -1 else (s : Int) + 2 := by
  have e : sLn (sAt L s) = 3 := by rcases h with h | h | h | h <;> rw [h] <;> rfl
  unfold sWf
  rw [e, if_neg (by decide)]
  have d0 : (s : Int) + 1 + ((0 : Nat) : Int) = (s : Int) + 1 := by omega
  have n0 := sNd_dg L s 0
  rw [d0] at n0
  by_cases h0 : zDg L ((s : Int) + 1)
  · rw [if_neg (not_not_intro h0)]
    have f : sFst (sNd L s) (3 - 2) = 1 := sFst_none 1 (fun j hj => by
      obtain rfl : j = 0 := by omega
      rw [n0, decide_eq_true h0]; rfl)
    rw [f, if_neg (by decide), show (s : Int) + ((3 : Nat) : Int) - 1 = (s : Int) + 2 by omega]
  · have f : sFst (sNd L s) (3 - 2) = 0 := sFst_eq (i := 0) (fun j hj => absurd hj (by omega)) (by rw [n0, decide_eq_false h0]; rfl) 1 (by omega)
    rw [f, if_pos (by decide), if_pos h0, d0]
theorem sWf_u {L : zAft} {s : Nat} (h : ¬ (sAt L s = 103 ∨ sAt L s = 114 ∨ sAt L s = 111 ∨ sAt L s = 99 ∨ sAt L s = 117 ∨ sAt L s = 109)) : sWf L s = s := by
  unfold sWf
  rw [if_pos]
  unfold sLn
  rw [if_neg (by omega), if_neg (by omega), if_neg (by omega)]
/-- the statement told at k, from letter s on -/
def zTl (L H : zAft) (k : Int) (s : Nat) : Prop := H 0 k = sAt L s ∧ H 1 k = s ∧ H 2 (3 * k) = (if sAt L s = 109 then sD2 L ((s : Int) + 1) else sDi L ((s : Int) + 1)) ∧ (sAt L s = 103 → H 2 (3 * k + 1) = sDi L ((s : Int) + 2) ∧ H 2 (3 * k + 2) = sD2 L ((s : Int) + 3))
/-- where the statements begin -/
def sSt (L : zAft) : Nat → Nat
  | 0 => 0
  | k + 1 => sSt L k + sLn (sAt L (sSt L k))
