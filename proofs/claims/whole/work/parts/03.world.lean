/-! THE WORLD: what the class and the reference hold, at fixed places; whole numbers in place of ints -/
def zt : List Cond := lw_tbl.filter goodWord
def zNest : Cond → Bool
  | .fieldLinkNest .. => true
  | .methodLinkNest .. => true
  | _ => false
def zn : List Cond := lw_tbl.filter zNest
theorem zt_in {w : Cond} (i : Nat) (h : (lw_tbl[i]?).map (fun v => decide (v = w) && goodWord v) = some true) : w ∈ zt := by
  cases hw : lw_tbl[i]? with
  | none => rw [hw] at h; cases h
  | some v =>
    rw [hw] at h
    simp only [Option.map_some, Option.some.injEq, Bool.and_eq_true, decide_eq_true_eq] at h
    obtain ⟨rfl, g⟩ := h
    exact List.mem_filter.mpr ⟨List.mem_of_getElem? hw, g⟩
theorem zn_in {w : Cond} (i : Nat) (h : (lw_tbl[i]?).map (fun v => decide (v = w) && zNest v) = some true) : w ∈ zn := by
  cases hw : lw_tbl[i]? with
  | none => rw [hw] at h; cases h
  | some v =>
    rw [hw] at h
    simp only [Option.map_some, Option.some.injEq, Bool.and_eq_true, decide_eq_true_eq] at h
    obtain ⟨rfl, g⟩ := h
    exact List.mem_filter.mpr ⟨List.mem_of_getElem? hw, g⟩
theorem zn_warm {w : Cond} (h : w ∈ zn) {s U : State} (hW : s.WarmedH U.vm) (hZ : va_Nw w s) : va_Nw w U := by
  have h2 := (List.mem_filter.mp h).2
  cases w <;> first | (exact va_Nw.warmF hW hZ) | (exact va_Nw.warmM hW hZ) | (simp [zNest] at h2)
theorem zn_same {w : Cond} (h : w ∈ zn) {u U : State} (hv : u.vm = U.vm) (hZ : va_Nw w u) : va_Nw w U := by
  have h2 := (List.mem_filter.mp h).2
  cases w <;> first | (exact va_Nw.same rfl hv hZ) | (simp [zNest] at h2)
theorem zn_use {w : Cond} (h : w ∈ zn) {A : Array Value} {U : State} (hZ : va_Nw w U) : w.before A U = true := by
  have h2 := (List.mem_filter.mp h).2
  cases w <;> first | (exact va_Nw.use rfl hZ) | (simp [zNest] at h2)
theorem zn_of {w : Cond} (h : w ∈ zn) {A : Array Value} {U : State} (hZ : w.before A U = true) : va_Nw w U := by
  have h2 := (List.mem_filter.mp h).2
  cases w <;> first | (exact va_Nw.of rfl hZ) | (simp [zNest] at h2)
def zii (x : Int) : Int32 := Int32.ofInt x
def zll (x : Int) : Int64 := Int64.ofInt x
abbrev zMem : Type := Nat → Nat → Int → Int
abbrev zF : Type := Nat ⊕ (Nat × Nat × Int)
abbrev zSh : Type := (Nat × List zF) ⊕ (Nat × Nat × Nat)
def zfv (ad : Nat → Nat) (M : zMem) (f : zF) : Value := match f with
  | .inl p => .ref (ad p)
  | .inr q => .int (zii (M q.1 q.2.1 q.2.2))
def zcell (ad : Nat → Nat) (cA : ClassId) (M : zMem) (e : zSh) : va_E := match e with
  | .inl o => .inr (o.1, o.2.map (zfv ad M))
  | .inr a => .inl (cA, a.1, .inl (fun j => zii (M a.2.1 a.2.2 j)))
def zwl : List zSh := [.inl (0, [.inl 1, .inl 2, .inl 3, .inl 4, .inl 5, .inl 6, .inr (0, 6, 0), .inr (0, 6, 1), .inr (0, 6, 2), .inr (0, 6, 3), .inr (0, 6, 4)]),
  .inr (6, 0, 0),
  .inr (6, 0, 1),
  .inr (6, 0, 2),
  .inr (6, 0, 3),
  .inr (6, 0, 4),
  .inr (6, 0, 5),
  .inl (0, [.inl 8, .inl 9, .inl 10, .inl 11, .inl 12, .inl 13, .inr (1, 6, 0), .inr (1, 6, 1), .inr (1, 6, 2), .inr (1, 6, 3), .inr (1, 6, 4)]),
  .inr (6, 1, 0),
  .inr (6, 1, 1),
  .inr (6, 1, 2),
  .inr (6, 1, 3),
  .inr (6, 1, 4),
  .inr (6, 1, 5),
  .inl (0, [.inl 15, .inl 16, .inl 17, .inl 18, .inl 19, .inl 20, .inr (2, 6, 0), .inr (2, 6, 1), .inr (2, 6, 2), .inr (2, 6, 3), .inr (2, 6, 4)]),
  .inr (6, 2, 0),
  .inr (6, 2, 1),
  .inr (6, 2, 2),
  .inr (6, 2, 3),
  .inr (6, 2, 4),
  .inr (6, 2, 5),
  .inl (4, [.inl 22, .inr (4, 1, 0)]),
  .inr (96, 4, 0),
  .inl (4, [.inl 24, .inr (5, 1, 0)]),
  .inr (12, 5, 0),
  .inl (1, [.inl 26, .inl 27, .inl 28, .inl 29, .inl 30, .inr (6, 5, 0), .inr (6, 5, 1)]),
  .inr (8, 6, 0),
  .inr (8, 6, 1),
  .inr (8, 6, 2),
  .inr (8, 6, 3),
  .inr (8, 6, 4),
  .inl (5, [.inl 0, .inl 7]),
  .inl (2, [.inl 0, .inl 7, .inl 33]),
  .inr (384, 7, 0),
  .inl (3, [.inl 0, .inl 7, .inl 35]),
  .inr (31, 8, 0),
  .inl (6, [.inl 0, .inl 7, .inl 14, .inl 21, .inl 23, .inl 25, .inl 31, .inl 32, .inl 34, .inl 37, .inr (9, 1, 0)]),
  .inr (6, 9, 0),
  .inl (7, [.inl 39, .inl 40, .inl 41, .inl 42, .inl 43, .inl 44, .inl 45, .inr (3, 6, 0), .inr (3, 6, 1), .inr (3, 6, 2), .inr (3, 6, 3), .inr (3, 6, 4), .inl 46, .inl 47, .inl 48, .inl 49, .inr (11, 1, 0), .inr (12, 3, 0), .inr (12, 3, 1), .inl 50, .inr (13, 1, 0), .inr (13, 1, 1), .inr (13, 1, 2), .inr (13, 1, 3), .inl 51, .inr (14, 1, 0), .inl 52, .inr (15, 1, 0), .inl 53, .inl 54]),
  .inr (7, 10, 0),
  .inr (6, 3, 0),
  .inr (6, 3, 1),
  .inr (6, 3, 2),
  .inr (6, 3, 3),
  .inr (6, 3, 4),
  .inr (6, 3, 5),
  .inr (96, 11, 0),
  .inr (48, 12, 0),
  .inr (48, 12, 1),
  .inr (144, 12, 2),
  .inr (462, 13, 0),
  .inr (200, 14, 0),
  .inr (12, 15, 0),
  .inr (31, 16, 0),
  .inr (6, 17, 0)]
def zws (ad : Nat → Nat) (cA : ClassId) (M : zMem) : va_W := zwl.mapIdx (fun p e => (ad p, zcell ad cA M e))
theorem zws_at {ad : Nat → Nat} {cA : ClassId} {M : zMem} {p : Nat} {e : zSh} (h : zwl[p]? = some e) : (zws ad cA M)[p]? = some (ad p, zcell ad cA M e) := by
  simp [zws, List.getElem?_mapIdx, h]
theorem zws_of {ad : Nat → Nat} {cA : ClassId} {M : zMem} {p : Nat} {q : Nat × va_E} (h : (zws ad cA M)[p]? = some q) : ∃ e, zwl[p]? = some e ∧ q = (ad p, zcell ad cA M e) := by
  simp only [zws, List.getElem?_mapIdx, Option.map_eq_some_iff] at h
  obtain ⟨e, h1, h2⟩ := h
  exact ⟨e, h1, h2.symm⟩
def zN : Nat := 55
theorem zN_len : zwl.length = zN := by decide +kernel
theorem zN_lt {p : Nat} {e : zSh} (h : zwl[p]? = some e) : p < zN := by
  rw [← zN_len]; exact (List.getElem?_eq_some_iff.mp h).1
def zInj (ad : Nat → Nat) : Prop := ∀ p q, p < zN → q < zN → ad p = ad q → p = q
def zA (ad : Nat → Nat) : Nat → Prop := fun q => ∃ p, p < zN ∧ q = ad p
theorem zD {ad : Nat → Nat} {cA : ClassId} {M : zMem} (hi : zInj ad) : va_D (zA ad) (zws ad cA M) := by
  refine ⟨fun i j x y hx hy hxy => ?_, fun k q hq => ?_⟩
  · obtain ⟨e, h1, rfl⟩ := zws_of hx
    obtain ⟨e2, h3, rfl⟩ := zws_of hy
    exact hi i j (zN_lt h1) (zN_lt h3) hxy
  · obtain ⟨e, h1, rfl⟩ := zws_of hq
    exact ⟨k, zN_lt h1, rfl⟩
/-- where the whole numbers lie: no two places share one -/
def zFl (f : zF) : List (Nat × Nat × Int) := match f with | .inl _ => [] | .inr q => [q]
def zup (M : zMem) (m r : Nat) (i v : Int) : zMem := fun m' r' i' => if m' = m ∧ r' = r ∧ i' = i then v else M m' r' i'
/-- an object's field k of place p: which whole number -/
def zfld (p ci k : Nat) : Option zF := match zwl[p]? with
  | some (.inl o) => if o.1 = ci then o.2[k]? else none
  | _ => none
def zarr (p : Nat) : Option (Nat × Nat × Nat) := match zwl[p]? with
  | some (.inr a) => some a
  | _ => none
theorem zfld_of {p ci k : Nat} {f : zF} (h : zfld p ci k = some f) : ∃ fs, zwl[p]? = some (.inl (ci, fs)) ∧ fs[k]? = some f := by
  unfold zfld at h
  split at h
  next o ho =>
    split at h
    next hc => exact ⟨o.2, by rw [ho, ← hc], h⟩
    next => cases h
  next => cases h
theorem zarr_of {p : Nat} {a : Nat × Nat × Nat} (h : zarr p = some a) : zwl[p]? = some (.inr a) := by
  unfold zarr at h
  split at h
  next b hb => cases h; exact hb
  next => cases h
/-- rows of arrays and whole numbers of fields are apart -/
def zOkA : Bool := (List.range zN).all fun p => (List.range zN).all fun q => match zwl[p]?, zwl[q]? with
  | some (.inr a), some (.inr b) => decide (p = q) || !(decide (a.2 = b.2))
  | some (.inr a), some (.inl o) => o.2.all fun f => match f with | .inl _ => true | .inr x => !(decide (a.2.1 = x.1 ∧ a.2.2 = x.2.1))
  | some (.inl o), some (.inl o2) => (List.range o.2.length).all fun j => (List.range o2.2.length).all fun k => match o.2[j]?, o2.2[k]? with
    | some (.inr x), some (.inr y) => decide (p = q ∧ j = k) || !(decide (x = y))
    | _, _ => true
  | _, _ => true
theorem zOkA_true : zOkA = true := by decide +kernel
theorem zok_aa {p q : Nat} {a b : Nat × Nat × Nat} (hp : zwl[p]? = some (.inr a)) (hq : zwl[q]? = some (.inr b)) (h : a.2 = b.2) : p = q := by
  have h1 := List.all_eq_true.mp (List.all_eq_true.mp zOkA_true p (List.mem_range.mpr (zN_lt hp))) q (List.mem_range.mpr (zN_lt hq))
  simp only [hp, hq, h, decide_true, Bool.not_true, Bool.or_false, decide_eq_true_eq] at h1
  exact h1
theorem zok_af {p q k : Nat} {a : Nat × Nat × Nat} {ci : Nat} {fs : List zF} {x : Nat × Nat × Int} (hp : zwl[p]? = some (.inr a)) (hq : zwl[q]? = some (.inl (ci, fs))) (hk : fs[k]? = some (.inr x)) : ¬ (a.2.1 = x.1 ∧ a.2.2 = x.2.1) := by
  have h1 := List.all_eq_true.mp (List.all_eq_true.mp zOkA_true p (List.mem_range.mpr (zN_lt hp))) q (List.mem_range.mpr (zN_lt hq))
  simp only [hp, hq] at h1
  have h2 := List.all_eq_true.mp h1 _ (List.mem_of_getElem? hk)
  intro h3
  simp [h3.1, h3.2] at h2
theorem zok_ff {p q j k : Nat} {ci cj : Nat} {fs gs : List zF} {x y : Nat × Nat × Int} (hp : zwl[p]? = some (.inl (ci, fs))) (hj : fs[j]? = some (.inr x)) (hq : zwl[q]? = some (.inl (cj, gs))) (hk : gs[k]? = some (.inr y)) (h : x = y) : p = q ∧ j = k := by
  have h1 := List.all_eq_true.mp (List.all_eq_true.mp zOkA_true p (List.mem_range.mpr (zN_lt hp))) q (List.mem_range.mpr (zN_lt hq))
  simp only [hp, hq] at h1
  have h2 := List.all_eq_true.mp (List.all_eq_true.mp h1 j (List.mem_range.mpr (List.getElem?_eq_some_iff.mp hj).1)) k (List.mem_range.mpr (List.getElem?_eq_some_iff.mp hk).1)
  simp only [hj, hk, h, decide_true, Bool.not_true, Bool.or_false, decide_eq_true_eq] at h2
  exact h2
/-- a field is written -/
theorem zws_fld {ad : Nat → Nat} {cA : ClassId} {M : zMem} {p ci k : Nat} {fs : List zF} {x : Nat × Nat × Int} (hp : zwl[p]? = some (.inl (ci, fs))) (hk : fs[k]? = some (.inr x)) (v : Int) :
    (zws ad cA M).set p (ad p, .inr (ci, (fs.map (zfv ad M)).set k (.int (zii v)))) = zws ad cA (zup M x.1 x.2.1 x.2.2 v) := by
  have hpl : p < (zws ad cA M).length := by
    have := (List.getElem?_eq_some_iff.mp hp).1
    simpa [zws] using this
  apply List.ext_getElem?
  intro q
  by_cases hq : q = p
  · subst hq
    rw [List.getElem?_set_self hpl, zws_at hp]
    congr 2
    show Sum.inr _ = Sum.inr _
    congr 2
    apply List.ext_getElem?
    intro j
    by_cases hj : j = k
    · subst hj
      rw [List.getElem?_set_self (by rw [List.length_map]; exact (List.getElem?_eq_some_iff.mp hk).1), List.getElem?_map, hk]
      simp [zfv, zup]
    · rw [List.getElem?_set_ne (Ne.symm hj), List.getElem?_map, List.getElem?_map]
      cases hfj : fs[j]? with
      | none => rfl
      | some f =>
        cases f with
        | inl r => rfl
        | inr y =>
          have hne : ¬ (y.1 = x.1 ∧ y.2.1 = x.2.1 ∧ y.2.2 = x.2.2) := by
            intro h
            obtain ⟨y1, y2, y3⟩ := y
            obtain ⟨x1, x2, x3⟩ := x
            obtain ⟨rfl, rfl, rfl⟩ := h
            exact hj (zok_ff hp hfj hp hk rfl).2
          simp [zfv, zup, hne]
  · rw [List.getElem?_set_ne (Ne.symm hq)]
    cases he : zwl[q]? with
    | none => simp [zws, List.getElem?_mapIdx, he]
    | some e =>
      rw [zws_at he, zws_at he]
      congr 2
      cases e with
      | inl o =>
        obtain ⟨cj, gs⟩ := o
        show Sum.inr _ = Sum.inr _
        congr 2
        apply List.map_congr_left
        intro f hf
        cases f with
        | inl r => rfl
        | inr y =>
          obtain ⟨j, hj⟩ := List.getElem?_of_mem hf
          have hne : ¬ (y.1 = x.1 ∧ y.2.1 = x.2.1 ∧ y.2.2 = x.2.2) := by
            intro h
            obtain ⟨y1, y2, y3⟩ := y
            obtain ⟨x1, x2, x3⟩ := x
            obtain ⟨rfl, rfl, rfl⟩ := h
            exact hq (zok_ff he hj hp hk rfl).1
          simp [zfv, zup, hne]
      | inr a =>
        have hne := zok_af he hp hk
        show Sum.inl _ = Sum.inl _
        congr 4
        funext j
        have : ¬ (a.2.1 = x.1 ∧ a.2.2 = x.2.1 ∧ (j : Int) = x.2.2) := fun h => hne ⟨h.1, h.2.1⟩
        simp [zup, this]
/-- an element of an array is written -/
theorem zws_arr {ad : Nat → Nat} {cA : ClassId} {M : zMem} {p : Nat} {a : Nat × Nat × Nat} (hp : zwl[p]? = some (.inr a)) (g : Nat → Int32) (M' : zMem) (h1 : ∀ m r i, ¬ (m = a.2.1 ∧ r = a.2.2) → M' m r i = M m r i) (h2 : ∀ j : Nat, g j = zii (M' a.2.1 a.2.2 j)) :
    (zws ad cA M).set p (ad p, .inl (cA, a.1, .inl g)) = zws ad cA M' := by
  have hpl : p < (zws ad cA M).length := by
    have := (List.getElem?_eq_some_iff.mp hp).1
    simpa [zws] using this
  apply List.ext_getElem?
  intro q
  by_cases hq : q = p
  · subst hq
    rw [List.getElem?_set_self hpl, zws_at hp]
    congr 2
    show Sum.inl _ = Sum.inl _
    congr 4
    funext j
    exact h2 j
  · rw [List.getElem?_set_ne (Ne.symm hq)]
    cases he : zwl[q]? with
    | none => simp [zws, List.getElem?_mapIdx, he]
    | some e =>
      rw [zws_at he, zws_at he]
      congr 2
      cases e with
      | inl o =>
        obtain ⟨cj, gs⟩ := o
        show Sum.inr _ = Sum.inr _
        congr 2
        apply List.map_congr_left
        intro f hf
        cases f with
        | inl r => rfl
        | inr y =>
          obtain ⟨j, hj⟩ := List.getElem?_of_mem hf
          have hne := zok_af hp he hj
          simp only [zfv]
          rw [h1 _ _ _ (fun h => hne ⟨h.1.symm, h.2.symm⟩)]
      | inr b =>
        have hne : ¬ (b.2.1 = a.2.1 ∧ b.2.2 = a.2.2) := by
          intro h
          refine hq (zok_aa he hp ?_)
          exact Prod.ext h.1 h.2
        show Sum.inl _ = Sum.inl _
        congr 4
        funext j
        rw [h1 _ _ _ hne]
