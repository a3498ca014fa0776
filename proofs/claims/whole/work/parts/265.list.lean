/-! lists: who was served, who left -/
def sPe (A : zAft) (g : Int) : Int := A 5 g + (if A 3 g = 2 then 1 else 0)
def sPh (A : zAft) : Nat → Int
  | 0 => 0
  | n + 1 => sPh A n + sPe A n
theorem sPh_c {A B : zAft} : ∀ n : Nat, (∀ g : Nat, g < n → sPe B g = sPe A g) → sPh B n = sPh A n := by
  intro n
  induction n with
  | zero => intro _; rfl
  | succ n ih => intro h; simp only [sPh]; rw [ih (fun g hg => h g (by omega)), h n (by omega)]
theorem sPh_1 {A B : zAft} {p : Nat} {v : Int} (hp : sPe B p = sPe A p + v) : ∀ n : Nat, p < n → (∀ g : Nat, g < n → g ≠ p → sPe B g = sPe A g) → sPh B n = sPh A n + v := by
  intro n
  induction n with
  | zero => intro h; omega
  | succ n ih =>
    intro h1 h2
    simp only [sPh]
    by_cases e : n = p
    · subst e
      rw [sPh_c n (fun g hg => h2 g (by omega) (by omega)), hp]; omega
    · rw [ih (by omega) (fun g hg => h2 g (by omega)), h2 n (by omega) e]; omega
theorem sPh_in {b : Int} {A : zAft} (h : zOk b A) : ∀ n : Nat, n ≤ 6 → 0 ≤ sPh A n ∧ sPh A n ≤ 6 * n := by
  intro n
  induction n with
  | zero => intro _; simp [sPh]
  | succ n ih =>
    intro hn
    have h1 := ih (by omega)
    have h2 := h.2 n (by omega) (by omega)
    unfold zG at h2
    simp only [sPh]
    unfold sPe
    split <;> omega
theorem sPe_for {A : zAft} {g : Int} (h : zG A g) : sPe (sFor A g) g = sPe A g := by
  have h2 := h
  unfold zG at h2
  unfold sFor
  split
  next e =>
    split
    · unfold sPe; simp [zwr, e]
    · unfold sPe; simp [zwr, e]
  next e =>
    split
    next e1 =>
      split
      · unfold sPe; simp [zwr, e1]
      · unfold sPe; simp [zwr, e1]
    next e1 =>
      split
      next e2 =>
        split
        · unfold sPe; simp [zwr, e2]
        · unfold sPe
          rw [zwr_r (by decide), zr0, zr0, if_pos e2, if_neg]
          · omega
          · split <;> decide
      · rfl
theorem sPh_for {b : Int} {A : zAft} (h : zOk b A) {g : Nat} (hg : g < 6) : sPh (sFor A g) 6 = sPh A 6 := by
  refine sPh_c 6 (fun k hk => ?_)
  by_cases e : k = g
  · subst e; exact sPe_for (h.2 k (by omega) (by omega))
  · unfold sPe
    rw [sFor_ne A (by omega), sFor_ne A (by omega)]
theorem sPh_forN {b : Int} {A : zAft} (h : zOk b A) : ∀ n : Nat, n ≤ 6 → sPh (sForN A n) 6 = sPh A 6 := by
  intro n
  induction n with
  | zero => intro _; rfl
  | succ n ih =>
    intro hn
    show sPh (sFor (sForN A n) n) 6 = _
    rw [sPh_for (sForN_ok h n (by omega)) (by omega), ih (by omega)]
theorem sPh_uns {b : Int} {A : zAft} (h : zOk b A) : sPh (sUns A) 6 = sPh A 6 := by
  have hA1 : zOk (b + 1) (zwr A 6 3 (A 6 3 + 1)) := by
    refine ⟨?_, fun g g0 g1 => zG_eq (h.2 g g0 g1) (fun r hr => zwr_r (by omega))⟩
    have := h.1
    unfold zH at this ⊢
    simp [zwr]; omega
  unfold sUns
  rw [sPh_forN hA1 _ (sG_le h.1).1]
  exact sPh_c 6 (fun k hk => by unfold sPe; rw [zwr_r (by decide), zwr_r (by decide)])
theorem sPh_p1 {b : Int} {A : zAft} (h : zH b A) (hp : 0 ≤ sPr A) : sPh (sP1 A) 6 = sPh A 6 + 1 := by
  have h1 := sPr_in h
  have h6 := h.1
  obtain ⟨p, hpe⟩ : ∃ p : Nat, sPr A = p := ⟨(sPr A).toNat, by omega⟩
  have e : sP1 A = zwr (zwr A 3 (p : Int) 2) 6 4 (A 6 4 + 1) := by unfold sP1; rw [if_neg (by omega), hpe]
  have h3 : A 3 (p : Int) = 1 := by rw [← hpe]; omega
  rw [e]
  refine sPh_1 (p := p) ?_ 6 (by omega) (fun g _ hg => ?_)
  · unfold sPe
    rw [zwr_r (by decide), zwr_r (by decide), zwr_r (by decide), zr0, if_pos rfl, h3, if_neg (by decide)]; omega
  · unfold sPe
    rw [zwr_r (by decide), zwr_r (by decide), zwr_r (by decide), zwr_i (by omega)]
theorem sPl_len {b : Int} : ∀ (n : Nat) (A : zAft), zOk b A → A 6 4 + n ≤ 6 * A 6 3 → ((sPl n A).length : Int) + sPh A 6 = sPh (sPn A n) 6 := by
  intro n
  induction n with
  | zero => intro A _ _; simp [sPl, sPn]
  | succ n ih =>
    intro A h hp
    simp only [sPl, sPn]
    have h3 := sP1_64 A
    have h4 := sP1_6 A 3 (by omega)
    split
    · simp
    · have h5 := ih _ (sP1_ok h (by omega)) (by omega)
      have h6 := sPh_p1 h.1 (by omega)
      rw [List.length_cons]; omega
theorem sSl_len {A : zAft} (h : zOk 999 A) : ∀ n : Nat, ((sSl A n).length : Int) + sPh A 6 = sPh (sRun A n) 6 := by
  intro n
  induction n with
  | zero => simp [sSl, sRun]
  | succ n ih =>
    have hO := sRun_ok h n
    have h2 := sPl_len 6 _ (sUns_ok hO) (sUns_p hO.1)
    rw [sPh_uns hO] at h2
    show ((sSl A n ++ sPl 6 (sUns (sRun A n))).length : Int) + _ = sPh (sPn (sUns (sRun A n)) 6) 6
    rw [List.length_append]; omega
theorem sSl_36 {A : zAft} (h : zOk 999 A) (n : Nat) : (sSl A n).length ≤ 36 := by
  have h1 := sSl_len h n
  have h2 := sPh_in h 6 (by omega)
  have h3 := sPh_in (sRun_ok h n) 6 (by omega)
  omega
theorem sPl_6 : ∀ (n : Nat) (A : zAft), (sPl n A).length ≤ n := by
  intro n
  induction n with
  | zero => intro A; simp [sPl]
  | succ n ih =>
    intro A
    simp only [sPl]
    split
    · simp
    · rw [List.length_cons]; have := ih (sP1 A); omega
theorem getD_snoc (l : List Int) (v : Int) (i : Nat) : (l ++ [v]).getD i (-9) = if l.length = i then v else l.getD i (-9) := by
  by_cases h : i < l.length
  · rw [getD_app1 h, if_neg (by omega)]
  · rw [getD_app2 (by omega)]
    by_cases e : l.length = i
    · rw [if_pos e, ← e, Nat.sub_self]; rfl
    · rw [if_neg e]
      simp only [List.getD_eq_getElem?_getD]
      rw [List.getElem?_eq_none (by simp; omega), List.getElem?_eq_none (by omega)]
/-- S holds the list l -/
def zLs (S : zAft) (l : List Int) : Prop := S 1 0 = l.length ∧ ∀ i : Nat, i < l.length → S 0 i = l.getD i (-9)
theorem zLs_r {S : zAft} {l : List Int} (h : zLs S l) (hl : l.length < 200) (g : Int) : zLs (sSr S g) (l ++ [g]) := by
  unfold sSr
  rw [if_pos (by rw [h.1]; omega), h.1]
  refine ⟨by rw [zr0, List.length_append]; simp, fun i hi => ?_⟩
  rw [List.length_append] at hi
  simp only [List.length_cons, List.length_nil] at hi
  rw [zwr_r (by decide), getD_snoc]
  by_cases e : l.length = i
  · rw [if_pos e, e, zr0]
  · rw [if_neg e, zwr_i (by omega)]; exact h.2 i (by omega)
theorem zLs_un : ∀ (n : Nat) (A S : zAft) (l : List Int), zLs S l → l.length + n ≤ 200 → zLs (sUn n A S) (l ++ sPl n A) := by
  intro n
  induction n with
  | zero => intro A S l h _; simp only [sUn, sPl, List.append_nil]; exact h
  | succ n ih =>
    intro A S l h hl
    simp only [sUn, sPl]
    split
    · rw [List.append_nil]; exact h
    · have h2 := ih (sP1 A) _ _ (zLs_r h (by omega) (sPr A)) (by rw [List.length_append]; simp; omega)
      rw [List.append_assoc] at h2
      exact h2
theorem zLs_rs {A S : zAft} (hA : zOk 999 A) (h : S 1 0 = 0) : ∀ n : Nat, zLs (sRS A S n) (sSl A n) := by
  intro n
  induction n with
  | zero => exact ⟨h, fun i hi => absurd hi (by simp [sSl])⟩
  | succ n ih =>
    have := sSl_36 hA n
    exact zLs_un 6 _ _ _ ih (by omega)
theorem sGl_len (A B : zAft) : ∀ n : Nat, (sGl A B n).length ≤ n := by
  intro n
  induction n with
  | zero => simp [sGl]
  | succ n ih => simp only [sGl]; split
                 · omega
                 · rw [List.length_append]; simp; omega
theorem sLl_len {A : zAft} (hG : sG A ≤ 6) : ∀ n : Nat, (sLl A n).length ≤ 6 * n := by
  intro n
  induction n with
  | zero => simp [sLl]
  | succ n ih =>
    have := sGl_len (sRun A n) (sRun A (n + 1)) (sG A)
    simp only [sLl]; rw [List.length_append]; omega
theorem sGl_bit {A : zAft} (hG : sG A ≤ 6) (m : Nat) {g : Nat} (hg : g < sG A) : (sBit (zand (sSet (sRun A (m + 1)) 3 (sG (sRun A m))) (zxor (sSet (sRun A m) 3 (sG (sRun A m))) (-1))) g = 0) ↔ ¬ (sRun A (m + 1) 3 g = 3 ∧ sRun A m 3 g ≠ 3) := by
  rw [sRun_G A m]
  have h := ((sSet_se (sRun A (m + 1)) 3 hG).del (sSet_se (sRun A m) 3 hG)).bit (g := g) (by omega)
  have h2 := sBit_in (zand (sSet (sRun A (m + 1)) 3 (sG A)) (zxor (sSet (sRun A m) 3 (sG A)) (-1))) g
  refine ⟨fun e z => ?_, fun z => ?_⟩
  · have := h.mpr ⟨⟨hg, z.1⟩, fun y => z.2 y.2⟩
    omega
  · rcases (by omega : sBit (zand (sSet (sRun A (m + 1)) 3 (sG A)) (zxor (sSet (sRun A m) 3 (sG A)) (-1))) g = 0 ∨ sBit (zand (sSet (sRun A (m + 1)) 3 (sG A)) (zxor (sSet (sRun A m) 3 (sG A)) (-1))) g = 1) with e | e
    · exact e
    · have h3 := h.mp e
      exact absurd ⟨h3.1.2, fun y => h3.2 ⟨hg, y⟩⟩ z
theorem sGl_no {A : zAft} (hG : sG A ≤ 6) (m : Nat) {g : Nat} (hg : g < sG A) (h : ¬ (sRun A (m + 1) 3 g = 3 ∧ sRun A m 3 g ≠ 3)) : sGl (sRun A m) (sRun A (m + 1)) (g + 1) = sGl (sRun A m) (sRun A (m + 1)) g := by
  simp only [sGl]; rw [if_pos ((sGl_bit hG m hg).mpr h)]
theorem sGl_yes {A : zAft} (hG : sG A ≤ 6) (m : Nat) {g : Nat} (hg : g < sG A) (h : sRun A (m + 1) 3 g = 3 ∧ sRun A m 3 g ≠ 3) : sGl (sRun A m) (sRun A (m + 1)) (g + 1) = sGl (sRun A m) (sRun A (m + 1)) g ++ [(g : Int)] := by
  simp only [sGl]; rw [if_neg (fun z => (sGl_bit hG m hg).mp z h)]
theorem zSe.less {v : Int} {p q : Nat → Prop} {n : Nat} (h : zSe v p) (hn : n < 6) (e : ∀ g : Nat, g < 6 → (q g ↔ p g ∧ g ≠ n)) : zSe (zand v (zxor (zshl 1 (n : Int)) (-1))) q := by
  have h1 : zSe (zor 0 (zshl 1 (n : Int))) (fun g => g = n) := zSe.e0.put hn (fun g _ => ⟨fun z => Or.inr z, fun z => z.resolve_left id⟩)
  have e0 : zor 0 (zshl 1 (n : Int)) = zshl 1 (n : Int) := by
    have := (zx_or (a := 0) (g := n) (by omega) hn).1
    rw [show ((0 : Nat) : Int) = 0 from rfl] at this
    rw [this, zshl_n n (by omega), Nat.zero_or]
  rw [e0] at h1
  exact (h.del h1).cg (fun g hg => ⟨fun z => (e g hg).mpr z, fun z => (e g hg).mp z⟩)
theorem everybody_se : ∀ n : Nat, n ≤ 6 → zSe (zshl 1 (n : Int) - 1) (fun g => g < n) := by
  intro n hn
  have h : ∀ n : Fin 7, zshl 1 ((n.val : Nat) : Int) - 1 = ((2 ^ n.val - 1 : Nat) : Int) := by decide +kernel
  refine ⟨2 ^ n - 1, h ⟨n, by omega⟩, ?_, fun g hg => ?_⟩
  · have : 2 ^ n ≤ 2 ^ 6 := Nat.pow_le_pow_right (by omega) hn
    omega
  · rw [Nat.testBit_two_pow_sub_one]; simp
