/-! only the real places of a memory count -/
def zAg (M M' : zMem) : Prop := ∀ (p : Nat) (e : zSh), zwl[p]? = some e → match e with
  | .inl o => ∀ x : Nat × Nat × Int, (.inr x : zF) ∈ o.2 → M x.1 x.2.1 x.2.2 = M' x.1 x.2.1 x.2.2
  | .inr a => ∀ x : Nat, x < a.1 → M a.2.1 a.2.2 x = M' a.2.1 a.2.2 x
theorem zarrV {c : ClassId} {n : Nat} {f g : Nat → Value} (h : ∀ j : Nat, j < n → f j = g j) : arrV c n f = arrV c n g := by
  unfold arrV
  have e : (Array.ofFn (n := n) fun j => f j.val) = Array.ofFn (n := n) fun j => g j.val := by
    congr 1; funext j; exact h j.val j.isLt
  rw [e]
theorem zP_ag {ad : Nat → Nat} {dC : Nat → ClassId} {dI : Nat → Nat → Nat} {cA : ClassId} {M M' : zMem} {H : Heap} (h : zAg M M') (hP : va_P (dC, dI) vwCl (zws ad cA M) H) : va_P (dC, dI) vwCl (zws ad cA M') H := by
  intro p q hq
  obtain ⟨e, he, rfl⟩ := zws_of hq
  have h1 := hP p _ (zws_at (ad := ad) (cA := cA) (M := M) he)
  have h2 := h p e he
  cases e with
  | inl o =>
    have e0 : o.2.map (zfv ad M') = o.2.map (zfv ad M) := List.map_congr_left (fun f hf => by
      cases f with
      | inl r => rfl
      | inr x => simp only [zfv]; rw [h2 x hf])
    have e1 : zcell ad cA M' (.inl o) = zcell ad cA M (.inl o) := by
      show (Sum.inr (o.1, o.2.map (zfv ad M')) : va_E) = Sum.inr (o.1, o.2.map (zfv ad M))
      rw [e0]
    rw [e1]; exact h1
  | inr a =>
    show H[ad p]? = some (vp_cell cA (a.1, .inl (fun j => zii (M' a.2.1 a.2.2 j))))
    have h3 : H[ad p]? = some (vp_cell cA (a.1, .inl (fun j => zii (M a.2.1 a.2.2 j)))) := h1
    rw [h3, vp_cell_i, vp_cell_i]
    exact congrArg some (zarrV (fun j hj => by rw [h2 j hj]))
theorem X_ag {k : zMD} {d pc : Nat} {lo : List (Option Value)} {st : List Value} {M M' : zMem} {Q : Option Value → zMem → Prop} (hag : zAg M M') (h : zX k d pc lo st M' Q) : zX k d pc lo st M Q :=
  fun ad dC dI cA p l e s m args below meth c H locs ls hC hP hS hL => h ad dC dI cA p l e s m args below meth c H locs ls hC (zP_ag hag hP) hS hL
def zOkB : Bool := zwl.all fun e => match e with
  | .inl o => o.2.all fun f => match f with | .inl _ => true | .inr x => !(decide (x.1 < 4)) || (decide (x.2.1 = 6) && (decide (0 ≤ x.2.2) && decide (x.2.2 < 5)))
  | .inr a => !(decide (a.2.1 < 4)) || (decide (a.1 = 6) && decide (a.2.2 < 6))
theorem zOkB_true : zOkB = true := by decide +kernel
/-- an afternoon's real places: six rows of six, five numbers -/
def zAe (A B : zAft) : Prop := (∀ (r : Nat) (x : Int), r < 6 → 0 ≤ x → x < 6 → A r x = B r x) ∧ ∀ x : Int, 0 ≤ x → x < 5 → A 6 x = B 6 x
theorem zAg_aft {M : zMem} {m : Nat} {A B : zAft} (hm : m < 4) (h : zAe A B) : zAg (zs M m A) (zs M m B) := by
  intro p e he
  have h0 := List.all_eq_true.mp zOkB_true e (List.mem_of_getElem? he)
  cases e with
  | inl o =>
    intro x hx
    have h1 := List.all_eq_true.mp h0 _ hx
    by_cases e1 : x.1 = m
    · simp only [Bool.or_eq_true, Bool.not_eq_true', decide_eq_false_iff_not, Bool.and_eq_true, decide_eq_true_eq] at h1
      have h2 : x.2.1 = 6 ∧ 0 ≤ x.2.2 ∧ x.2.2 < 5 := by
        rcases h1 with h1 | h1
        · omega
        · exact h1
      simp only [zs, e1, if_true]
      rw [h2.1]
      exact h.2 _ h2.2.1 h2.2.2
    · simp [zs, e1]
  | inr a =>
    intro x hx
    by_cases e1 : a.2.1 = m
    · simp only [Bool.or_eq_true, Bool.not_eq_true', decide_eq_false_iff_not, Bool.and_eq_true, decide_eq_true_eq] at h0
      have h2 : a.1 = 6 ∧ a.2.2 < 6 := by
        rcases h0 with h0 | h0
        · omega
        · exact h0
      simp only [zs, e1, if_true]
      exact h.1 _ _ h2.2 (by omega) (by omega)
    · simp [zs, e1]
theorem X_aft {k : zMD} {d pc : Nat} {lo : List (Option Value)} {st : List Value} {M : zMem} {m : Nat} {A B : zAft} {Q : Option Value → zMem → Prop} (hm : m < 4) (h : zAe A B) (hx : zX k d pc lo st (zs M m B) Q) : zX k d pc lo st (zs M m A) Q := X_ag (zAg_aft hm h) hx
theorem sNx_skip {A : zAft} {n : Nat} (h : ¬ A 3 n = 1) : sNx A (n + 1) = sNx A n := by simp [sNx, h]
theorem sNx_take0 {A : zAft} {n : Nat} (h : A 3 n = 1) (h2 : sNx A n = -1) : sNx A (n + 1) = n := by simp [sNx, h, h2]
theorem sNx_take1 {A : zAft} {n : Nat} (h : A 3 n = 1) (h2 : sAh A n (sNx A n) = true) : sNx A (n + 1) = n := by simp [sNx, h, h2]
theorem sNx_keep {A : zAft} {n : Nat} (h : ¬ sNx A n = -1) (h2 : ¬ sAh A n (sNx A n) = true) : sNx A (n + 1) = sNx A n := by
  have := sNx_in A n
  have h3 : ¬ sNx A n < 0 := by omega
  simp [sNx, h2, h3]
def zcpA (B : zAft) (r : Nat) (n : Int) (row : Int → Int) : zAft := fun r' x => if r' = r ∧ 0 ≤ x ∧ x < n then row x else B r' x
theorem zcp0 {M : zMem} {i j r r' : Nat} {B : zAft} {n : Int} (h : (j == i) = false) : zcpy (zs M i B) i r j r' n = zs M i (zcpA B r n (M j r')) := by
  have h9 : j ≠ i := by simpa using h
  funext m r2 x
  by_cases e : m = i
  · subst e
    simp [zcpy, zs, zcpA, h9]
  · simp [zcpy, zs, e]
theorem Y_copy {k : zMD} {d pc nx : Nat} {lo : List (Option Value)} {st : List Value} {M M' : zMem} {Q : Option Value → zMem → Prop} {idx p q n1 m1 r1 n2 m2 r2 : Nat} {a : Int} (hi : zI k pc (.invokestatic idx) 3 nx) (hl : Cond.methodLink k.1.cls idx arraycopyName ∈ zt) (hw : Cond.native arraycopyName ∈ zt ∧ Cond.static arraycopyName ∈ zt ∧ Cond.initialized "java/lang/System" ∈ zt) (hp : zarr p = some (n1, m1, r1)) (hq : zarr q = some (n2, m2, r2)) (h0 : 0 ≤ a ∧ a ≤ n1 ∧ a ≤ n2) (hn : n1 < 2147483648) (hd1 : 1 ≤ d) (hst : st = []) (hM : zcpy M m1 r1 m2 r2 a = M') (h : zX k d nx lo st M' Q) : zX k d pc lo (.int (zii a) :: .int (zii 0) :: .ref p :: .int (zii 0) :: .ref q :: st) M Q := by
  subst hM; exact X_copy hi hl hw hp hq h0 hn hd1 hst h
