/-! fields, arrays, calls -/
def zK (ci : Nat) (C : String) (T : u_T) (N : Nat) : Prop := vwCl[ci]? = some (C, T, N) ∧ (∀ w ∈ u_ws C T N, w ∈ zt) ∧ (∃ ty0 : Nat → FieldType, ∀ k, k < N → parseFieldDescriptor (T k).2.2.1 = some (ty0 k)) ∧ (∀ a, a < N → ∀ b, b < N → a ≠ b → (T a).2.1 ≠ (T b).2.1)
theorem zt_all {ws : List Cond} (h : ws.all (fun w => decide (w ∈ lw_tbl) && goodWord w) = true) : ∀ w ∈ ws, w ∈ zt := by
  intro w hw
  have h1 := List.all_eq_true.mp h w hw
  simp only [Bool.and_eq_true, decide_eq_true_eq] at h1
  exact List.mem_filter.mpr ⟨h1.1, h1.2⟩
theorem zK0 : zK 0 RX0 TX0 11 := ⟨rfl, zt_all (by decide +kernel), ⟨tyX0, tyX0_ok⟩, nmX0⟩
theorem zK1 : zK 1 RX1 TX1 7 := ⟨rfl, zt_all (by decide +kernel), ⟨tyX1, tyX1_ok⟩, nmX1⟩
theorem zK2 : zK 2 RX2 TX2 3 := ⟨rfl, zt_all (by decide +kernel), ⟨tyX2, tyX2_ok⟩, nmX2⟩
theorem zK3 : zK 3 RX4 TX4 3 := ⟨rfl, zt_all (by decide +kernel), ⟨tyX4, tyX4_ok⟩, nmX4⟩
theorem zK4 : zK 4 RX6 TX6 2 := ⟨rfl, zt_all (by decide +kernel), ⟨tyX6, tyX6_ok⟩, nmX6⟩
theorem zK5 : zK 5 RX7 TX7 2 := ⟨rfl, zt_all (by decide +kernel), ⟨tyX7, tyX7_ok⟩, nmX7⟩
theorem zK6 : zK 6 RX9 TX9 11 := ⟨rfl, zt_all (by decide +kernel), ⟨tyX9, tyX9_ok⟩, nmX9⟩
theorem zK7 : zK 7 RX10 TX10 30 := ⟨rfl, zt_all (by decide +kernel), ⟨tyX10, tyX10_ok⟩, nmX10⟩
def zFL (own : String) (idx ci j : Nat) : Prop := ∃ (C : String) (T : u_T) (N : Nat), zK ci C T N ∧ j < N ∧ (Cond.fieldLink own idx (T j).1 (T j).2.1 (T j).2.2.1 ∈ zt ∨ ∃ host, Cond.fieldLinkNest own idx (T j).1 (T j).2.1 (T j).2.2.1 host ∈ zn)
def zFT (ci j : Nat) (ty : FieldType) : Prop := ∀ (C : String) (T : u_T) (N : Nat), vwCl[ci]? = some (C, T, N) → (T j).2.2.2 = false ∧ parseFieldDescriptor (T j).2.2.1 = some ty
section ZM
variable {k : zMD} {d pc nx : Nat} {lo : List (Option Value)} {st : List Value} {M : zMem} {Q : Option Value → zMem → Prop}
theorem X_get {idx ci j p : Nat} {f : zF} (hi : zI k pc (.getfield idx) 3 nx) (hf : zFL k.1.cls idx ci j) (hs : zfld p ci j = some f) (h : ∀ ad : Nat → Nat, ∀ (dC : Nat → ClassId) (dI : Nat → Nat → Nat) (cA : ClassId) (p9 : Program) (l : Launch) (e : Env) (s : State) (m : MethodId) (args : Array Value) (below : List Frame) (meth : Method) (c : Code) (H : Heap) (locs : List Loc) (ls : Array Slot),
    zC ad dC dI cA k p9 s m args meth c → va_P (dC, dI) vwCl (zws ad cA M) H → va_S (zA ad) s.heap H locs → zL ad ls k.2.2.1 lo →
    W p9 l e (zrm d) s m args below meth c H locs 0 0 (MQ below (zQ ad dC dI cA Q) args s 0 0 (zA ad)) (F0 m nx ls (zfv ad M f :: st.map (zrv ad)))) : zX k d pc lo (.ref p :: st) M Q := by
  intro ad dC dI cA p9 l e s m args below meth c H locs ls hC hP hS hL
  have kk := h ad dC dI cA p9 l e s m args below meth c H locs ls hC hP hS hL
  obtain ⟨hd, rfl⟩ := hi
  obtain ⟨hx, hb, hr, hml, hown, hts, hlk, hK, hinj, hnw⟩ := hC
  obtain ⟨C, T, N, ⟨hc, hin, -, -⟩, hj, hlink⟩ := hf
  obtain ⟨fs, hw, hfs⟩ := zfld_of hs
  have hv : (fs.map (zfv ad M))[j]? = some (zfv ad M f) := by rw [List.getElem?_map, hfs]; rfl
  rcases hlink with hl | ⟨host, hl⟩
  · exact va_get hx hb hts hin hown hK hP p (zws_at hw) hc j hj (hts _ hl) (fun _ h9 => h9) hv hd kk
  · exact va_getN hx hb hts hin hown hK hP p (zws_at hw) hc j hj (zn_use hl (hnw _ hl)) (fun _ h9 => h9) hv hd kk
theorem X_getR {idx ci j p q : Nat} (hi : zI k pc (.getfield idx) 3 nx) (hf : zFL k.1.cls idx ci j) (hs : zfld p ci j = some (.inl q)) (h : zX k d nx lo (.ref q :: st) M Q) : zX k d pc lo (.ref p :: st) M Q :=
  X_get hi hf hs h
theorem X_getI {idx ci j p : Nat} {x : Nat × Nat × Int} (hi : zI k pc (.getfield idx) 3 nx) (hf : zFL k.1.cls idx ci j) (hs : zfld p ci j = some (.inr x)) (h : zX k d nx lo (.int (zii (M x.1 x.2.1 x.2.2)) :: st) M Q) : zX k d pc lo (.ref p :: st) M Q :=
  X_get hi hf hs h
theorem X_putT {idx ci j p : Nat} {x : Nat × Nat × Int} {a : Int} {ty : FieldType} (hi : zI k pc (.putfield idx) 3 nx) (hf : zFL k.1.cls idx ci j) (hs : zfld p ci j = some (.inr x)) (hty : zFT ci j ty) (hn : narrow ty (.int (zii a)) = .int (zii a)) (hfit : fits ty (.int (zii a)) = true) (h : zX k d nx lo st (zup M x.1 x.2.1 x.2.2 a) Q) : zX k d pc lo (.int (zii a) :: .ref p :: st) M Q := by
  intro ad dC dI cA p9 l e s m args below meth c H locs ls hC hP hS hL
  have h9 := h ad dC dI cA p9 l e s m args below meth c
  obtain ⟨hd, rfl⟩ := hi
  have hC2 := hC
  obtain ⟨hx, hb, hr, hml, hown, hts, hlk, hK, hinj, hnw⟩ := hC
  obtain ⟨C, T, N, ⟨hc, hin, ⟨ty0, ht0⟩, hnm⟩, hj, hlink⟩ := hf
  obtain ⟨hfin, hparse⟩ := hty C T N hc
  obtain ⟨fs, hw, hfs⟩ := zfld_of hs
  have hlen : j < (fs.map (zfv ad M)).length := by rw [List.length_map]; exact (List.getElem?_eq_some_iff.mp hfs).1
  have he := zws_fld (ad := ad) (cA := cA) (M := M) hw hfs a
  rcases hlink with hl | ⟨host, hl⟩
  · exact va_put hx hb hts hin ty0 ht0 hnm hown hK hP (zD hinj) hS p (zws_at hw) hc j hj (hts _ hl) (fun _ h9 => h9) hfin hparse hn hfit hlen hd (fun H1 locs1 hP1 _ hS1 => h9 H1 locs1 ls hC2 (by rw [← he]; exact hP1) hS1 hL)
  · exact va_putN hx hb hts hin ty0 ht0 hnm hown hK hP (zD hinj) hS p (zws_at hw) hc j hj (zn_use hl (hnw _ hl)) (fun _ h9 => h9) hfin hparse hn hfit hlen hd (fun H1 locs1 hP1 _ hS1 => h9 H1 locs1 ls hC2 (by rw [← he]; exact hP1) hS1 hL)
theorem X_putI {idx ci j p : Nat} {x : Nat × Nat × Int} {a : Int} (hi : zI k pc (.putfield idx) 3 nx) (hf : zFL k.1.cls idx ci j) (hs : zfld p ci j = some (.inr x)) (hty : zFT ci j .int) (h : zX k d nx lo st (zup M x.1 x.2.1 x.2.2 a) Q) : zX k d pc lo (.int (zii a) :: .ref p :: st) M Q :=
  X_putT hi hf hs hty rfl rfl h
theorem X_putZ {idx ci j p : Nat} {x : Nat × Nat × Int} {a : Int} (hi : zI k pc (.putfield idx) 3 nx) (hf : zFL k.1.cls idx ci j) (hs : zfld p ci j = some (.inr x)) (hty : zFT ci j .boolean) (ha : a = 0 ∨ a = 1) (h : zX k d nx lo st (zup M x.1 x.2.1 x.2.2 a) Q) : zX k d pc lo (.int (zii a) :: .ref p :: st) M Q :=
  X_putT hi hf hs hty (by rcases ha with rfl | rfl <;> rfl) (by rcases ha with rfl | rfl <;> rfl) h
theorem X_iald {p n mm r : Nat} {a : Int} (hi : zI k pc .iaload 1 nx) (hs : zarr p = some (n, mm, r)) (h0 : 0 ≤ a ∧ a < n) (hn : n < 2147483648) (h : zX k d nx lo (.int (zii (M mm r a)) :: st) M Q) : zX k d pc lo (.int (zii a) :: .ref p :: st) M Q := by
  intro ad dC dI cA p9 l e s m args below meth c H locs ls hC hP hS hL
  have kk := h ad dC dI cA p9 l e s m args below meth c H locs ls hC hP hS hL
  obtain ⟨hd, rfl⟩ := hi
  obtain ⟨hx, hb, hr, hml, hown, hts, hlk, hK, hinj, hnw⟩ := hC
  obtain ⟨h3, h4⟩ := zidx h0.1 h0.2 hn
  refine va_iald (f := fun j => zii (M mm r j)) hx hb hK hP p 0 (zws_at (zarr_of hs)) rfl h3 hd ?_
  simp only [h4]
  exact kk
theorem X_iast {p n mm r : Nat} {a v : Int} (hi : zI k pc .iastore 1 nx) (hs : zarr p = some (n, mm, r)) (h0 : 0 ≤ a ∧ a < n) (hn : n < 2147483648) (h : zX k d nx lo st (zup M mm r a v) Q) : zX k d pc lo (.int (zii v) :: .int (zii a) :: .ref p :: st) M Q := by
  intro ad dC dI cA p9 l e s m args below meth c H locs ls hC hP hS hL
  have h9 := h ad dC dI cA p9 l e s m args below meth c
  obtain ⟨hd, rfl⟩ := hi
  have hC2 := hC
  obtain ⟨hx, hb, hr, hml, hown, hts, hlk, hK, hinj, hnw⟩ := hC
  obtain ⟨h3, h4⟩ := zidx h0.1 h0.2 hn
  refine va_iast (f := fun j => zii (M mm r j)) (x := zii v) hx hb hK hP (zD hinj) hS p 0 (zws_at (zarr_of hs)) rfl h3 hd (fun H1 locs1 hP1 _ hS1 => h9 H1 locs1 ls hC2 ?_ hS1 hL)
  rw [← zws_arr (ad := ad) (cA := cA) (M := M) (zarr_of hs) (upd (fun j => zii (M mm r j)) (zii a).toNatClampNeg (zii v)) (zup M mm r a v) (fun m9 r9 i h => by
    have : ¬ (m9 = mm ∧ r9 = r ∧ i = a) := fun z => h ⟨z.1, z.2.1⟩
    simp [zup, this]) (fun j => by
    by_cases hj : (j : Int) = a
    · have e : j = (zii a).toNatClampNeg := by omega
      simp [upd, zup, hj, ← e]
    · have e : ¬ j = (zii a).toNatClampNeg := by omega
      simp [upd, zup, hj, e])]
  exact hP1
theorem X_alen {p n mm r : Nat} {a : Int} (hi : zI k pc .arraylength 1 nx) (hs : zarr p = some (n, mm, r)) (ha : Int32.ofNat n = zii a) (h : zX k d nx lo (.int (zii a) :: st) M Q) : zX k d pc lo (.ref p :: st) M Q := by
  intro ad dC dI cA p9 l e s m args below meth c H locs ls hC hP hS hL
  have kk := h ad dC dI cA p9 l e s m args below meth c H locs ls hC hP hS hL
  obtain ⟨hd, rfl⟩ := hi
  obtain ⟨hx, hb, hr, hml, hown, hts, hlk, hK, hinj, hnw⟩ := hC
  exact va_alen hx hb hK hP p 0 (zws_at (zarr_of hs)) rfl (v := zii a) ha hd kk
/-- six elements of one array over another's -/
def zcpy (M : zMem) (m1 r1 m2 r2 : Nat) (n : Int) : zMem := fun m r i => if m = m1 ∧ r = r1 ∧ 0 ≤ i ∧ i < n then M m2 r2 i else M m r i
theorem X_copy {idx p q n1 m1 r1 n2 m2 r2 : Nat} {a : Int} (hi : zI k pc (.invokestatic idx) 3 nx) (hl : Cond.methodLink k.1.cls idx arraycopyName ∈ zt) (hw : Cond.native arraycopyName ∈ zt ∧ Cond.static arraycopyName ∈ zt ∧ Cond.initialized "java/lang/System" ∈ zt) (hp : zarr p = some (n1, m1, r1)) (hq : zarr q = some (n2, m2, r2)) (h0 : 0 ≤ a ∧ a ≤ n1 ∧ a ≤ n2) (hn : n1 < 2147483648) (hd1 : 1 ≤ d) (hst : st = []) (h : zX k d nx lo st (zcpy M m1 r1 m2 r2 a) Q) : zX k d pc lo (.int (zii a) :: .int (zii 0) :: .ref p :: .int (zii 0) :: .ref q :: st) M Q := by
  subst hst
  intro ad dC dI cA p9 l e s m args below meth c H locs ls hC hP hS hL
  have h9 := h ad dC dI cA p9 l e s m args below meth c
  obtain ⟨hd, rfl⟩ := hi
  have hC2 := hC
  obtain ⟨hx, hb, hr, hml, hown, hts, hlk, hK, hinj, hnw⟩ := hC
  have hz : zR a := ⟨by omega, by omega⟩
  have ea : ((zii a).toNatClampNeg : Int) = a := by
    show ((zii a).toInt.toNat : Int) = a
    rw [zii_toInt hz]; omega
  have e0 : (zii 0).toNatClampNeg = 0 := rfl
  refine va_copyi hx hb (hml.trans hL.1.symm) hown (hts _ hl) (hts _ hw.1) (hts _ hw.2.1) (hts _ hw.2.2) hK hP (zD hinj) hS q p 0 0 (f := fun j => zii (M m2 r2 j)) (g := fun j => zii (M m1 r1 j)) (ty := .int) (zws_at (zarr_of hq)) (zws_at (zarr_of hp)) rfl rfl rfl (sp := zii 0) (dp := zii 0) (n := zii a) (by decide) (by decide) (by rw [zii_lt0 hz]; omega) (by rw [e0]; show _ ≤ n2; omega) (by rw [e0]; show _ ≤ n1; omega) (fun _ _ => rfl) hd1 (by
      have e9 : (([] : List Value).map fun v => v.category).sum + (nativeFrameWords "java/lang/System" "arraycopy" 5 + 11) ≤ 36 := by decide +kernel
      show _ ≤ 36 * d
      exact Nat.le_trans e9 (by omega)) hd (fun H1 locs1 hP1 _ hS1 => h9 H1 locs1 ls hC2 ?_ hS1 hL)
  rw [← zws_arr (ad := ad) (cA := cA) (M := M) (zarr_of hp) (va_cpy (fun j => zii (M m2 r2 j)) (fun j => zii (M m1 r1 j)) (zii 0).toNatClampNeg (zii 0).toNatClampNeg (zii a).toNatClampNeg) (zcpy M m1 r1 m2 r2 a) (fun m9 r9 i h => by
    have : ¬ (m9 = m1 ∧ r9 = r1 ∧ 0 ≤ i ∧ i < a) := fun z => h ⟨z.1, z.2.1⟩
    simp [zcpy, this]) (fun j => by
    rw [e0]
    by_cases hj : (j : Int) < a
    · have e : j < (zii a).toNatClampNeg := by omega
      simp [va_cpy, zcpy, hj, e]
    · have e : ¬ j < (zii a).toNatClampNeg := by omega
      simp [va_cpy, zcpy, hj, e])]
  exact hP1
end ZM
/-! contracts and calls -/
def zw (k : zMD) : List Cond := Cond.code k.1 k.2.1 k.2.2.1 k.2.2.2 :: zt
def zPc (ad : Nat → Nat) (dC : Nat → ClassId) (dI : Nat → Nat → Nat) (cA : ClassId) (vs : List Value) (M : zMem) : Array Value → State → Prop := fun v U =>
  v = (vs.map (zrv ad)).toArray ∧ va_P (dC, dI) vwCl (zws ad cA M) U.heap ∧ va_K (dC, dI) vwCl [(cA, .int)] U ∧ zInj ad ∧ ∀ w ∈ zn, va_Nw w U
def zCt (k : zMD) (d : Nat) (vs : List Value) (M : zMem) (Q : Option Value → zMem → Prop) : Prop := ∀ (l : Launch) (ad : Nat → Nat) (dC : Nat → ClassId) (dI : Nat → Nat → Nat) (cA : ClassId), Met l k.1 (zw k) (zrm d) (zPc ad dC dI cA vs M) (zQ ad dC dI cA Q) 0 0 (zA ad)
def zla : List Value → List (Option Value)
  | [] => []
  | v :: t => if v.category = 2 then some v :: none :: zla t else some v :: zla t
def zpad (n : Nat) (l : List (Option Value)) : List (Option Value) := l ++ List.replicate (n - l.length) none
theorem zla_args (ad : Nat → Nat) : ∀ (vs : List Value) (i0 j : Nat) (v : Value), (zla vs)[j]? = some (some v) → (i0 + j, zrv ad v) ∈ lv_args i0 (vs.map (zrv ad)) := by
  intro vs
  induction vs with
  | nil => intro i0 j v h; simp [zla] at h
  | cons w t ih =>
    intro i0 j v h
    simp only [zla] at h
    simp only [List.map_cons, lv_args, zrv_cat]
    by_cases hc : w.category = 2
    · rw [if_pos hc] at h
      rw [if_pos hc]
      match j with
      | 0 => simp at h; subst h; exact List.mem_cons_self
      | 1 => simp at h
      | j + 2 =>
        simp only [List.getElem?_cons_succ] at h
        have := ih (i0 + 2) j v h
        rw [show i0 + 2 + j = i0 + (j + 2) by omega] at this
        exact List.mem_cons_of_mem _ this
    · rw [if_neg hc] at h
      rw [if_neg hc]
      match j with
      | 0 => simp at h; subst h; exact List.mem_cons_self
      | j + 1 =>
        simp only [List.getElem?_cons_succ] at h
        have := ih (i0 + 1) j v h
        rw [show i0 + 1 + j = i0 + (j + 1) by omega] at this
        exact List.mem_cons_of_mem _ this
theorem zla_len (ad : Nat → Nat) (vs : List Value) : (lg_sl (vs.map (zrv ad))).length = (zla vs).length := by
  induction vs with
  | nil => rfl
  | cons w t ih =>
    simp only [lg_sl, List.map_cons, List.flatMap_cons, zrv_cat, zla, List.length_append] at ih ⊢
    by_cases hc : w.category = 2 <;> simp [hc, ih] <;> omega
/-- a method's walk from its entry is its contract -/
theorem zMet {k : zMD} {d : Nat} {vs : List Value} {M : zMem} {Q : Option Value → zMem → Prop} (hy : plainName k.1.cls = true) (hn : (zla vs).length ≤ k.2.2.1) (h : zX k d 0 (zpad k.2.2.1 (zla vs)) [] M Q) : zCt k d vs M Q := by
  intro l ad dC dI cA
  refine Met.ofW (cc := k.2.1) (maxL := k.2.2.1) (ret := k.2.2.2) (ws' := zt) hy rfl ?_
  intro p e s m args below meth c s₁ B hml hv
  obtain ⟨rfl, hP, hK, hinj, hnw⟩ := hv
  have hts := atoms_spec (ws := zw k) B.pre
  rw [lg_entry_eq]
  have hl := lv_entry (vs.map (zrv ad)) (n := k.2.2.1) (by rw [zla_len]; exact hn)
  refine h ad dC dI cA p l e s m _ below meth c s.heap [] _ ⟨B.exec, B.bytes, B.returns, hml, findClass_of_methodNamed B.named, fun w hw => hts w (List.mem_cons_of_mem _ hw), B.notSynchronized, hK, hinj, hnw⟩ hP va_S.rf ⟨hl.1, hl.2.1, fun i v hv => ?_⟩
  unfold zpad at hv
  by_cases hi : i < (zla vs).length
  · rw [List.getElem?_append_left hi] at hv
    have := zla_args ad vs 0 i v hv
    rw [Nat.zero_add] at this
    exact hl.2.2 _ this
  · rw [List.getElem?_append_right (by omega)] at hv
    have := List.eq_of_mem_replicate (List.mem_of_getElem? hv)
    cases this
def zMC (k : zMD) (n : Nat) : Prop := Cond.code k.1 k.2.1 k.2.2.1 k.2.2.2 ∈ zt ∧ Cond.initialized k.1.cls ∈ zt ∧ (k.1.cls ≠ "java/lang/invoke/MethodHandle" ∧ k.1.cls ≠ "java/lang/invoke/VarHandle" ∧ (parseMethodDescriptor k.1.desc).map (fun d => d.parameters.length) = some n) ∧ k.2.2.1 ≤ 17
def zMV (k : zMD) (ci n : Nat) : Prop := zMC k n ∧ Cond.instanceMethod k.1 ∈ zt ∧ Cond.selects k.1.cls k.1 k.1 ∈ zt ∧ (vwCl[ci]?).map (fun r => r.1) = some k.1.cls
def zMS (k : zMD) (n : Nat) : Prop := zMC k n ∧ Cond.static k.1 ∈ zt
def zML (own : String) (idx : Nat) (y : MethodName) : Prop := Cond.methodLink own idx y ∈ zt ∨ ∃ host, Cond.methodLinkNest own idx y host ∈ zn
theorem zGood {k : zMD} (h : Cond.code k.1 k.2.1 k.2.2.1 k.2.2.2 ∈ zt) : GoodIn zt (zw k) := by
  intro w hw
  have hz : w ∈ zt := by
    rcases List.mem_cons.mp hw with rfl | h1
    · exact h
    · exact h1
  exact ⟨hz, good_of_word (List.mem_filter.mp hz).2⟩
def zob (p : Nat) : Option Nat := match zwl[p]? with
  | some (.inl o) => some o.1
  | _ => none
theorem zblind (ad : Nat → Nat) (dC : Nat → ClassId) (dI : Nat → Nat → Nat) (cA : ClassId) (vs : List Value) (M : zMem) : FrameBlind (zPc ad dC dI cA vs M) := fun a U g mk q => ⟨q.1, q.2.1, va_K.moved (u := U) (U := U.calling g mk a) (Vm.Alike.refl U.vm) q.2.2.1, q.2.2.2.1, fun w hw => zn_same (u := U) (U := U.calling g mk a) hw rfl (q.2.2.2.2 w hw)⟩
section ZCALL
variable {k k' : zMD} {d d' pc nx : Nat} {lo : List (Option Value)} {st stk : List Value} {M : zMem} {Q Q' : Option Value → zMem → Prop}
theorem X_back {vs : List Value} {ad : Nat → Nat} {dC : Nat → ClassId} {dI : Nat → Nat → Nat} {cA : ClassId} {p : Program} {l : Launch} {e : Env} {s : State} {m : MethodId} {args : Array Value} {below : List Frame} {meth : Method} {c : Code} {H : Heap} {locs : List Loc} {ls : Array Slot} {av : Array Value}
    (hr : va_Run p l e (zrm d) s m args below meth c H locs 0 0 0 0 (F0 m pc ls vs) (st.map (zrv ad)) (zQ ad dC dI cA Q' av) (zA ad)) (hnx : nx = pc + 3)
    (hC : zC ad dC dI cA k p s m args meth c) (hS : va_S (zA ad) s.heap H locs) (hL : zL ad ls k.2.2.1 lo) (kk : ∀ r M', Q' r M' → zX k d nx lo (r.toList ++ st) M' Q) :
    W p l e (zrm d) s m args below meth c H locs 0 0 (MQ below (zQ ad dC dI cA Q) args s 0 0 (zA ad)) (F0 m pc ls vs) := by
  subst hnx
  intro T hT X
  obtain ⟨v, st₀, t, T', L, h0, X', hL9, e1, e2, ⟨⟨r, M', hv, hq, hP⟩, hz, hk⟩, go⟩ := hr T hT X
  cases hv
  rw [h0] at hz hk
  obtain ⟨t2, a1, b1⟩ := kk r M' hq ad dC dI cA p l e s m args below meth c T'.heap (locs ++ L) ls hC (by rw [e1]; exact hP)
    ⟨Nat.le_trans hS.1 (by rw [e1]; exact hz), fun q h1 h2 => by rw [e1, hk q (Nat.lt_of_lt_of_le h1 hS.1) h2]; exact hS.2.1 q h1 h2, fun q hq => by
      rcases List.mem_append.mp hq with h | h
      · exact hS.2.2 q h
      · exact hL9 q h⟩ hL T' rfl X'
  refine ⟨t2, go t2 ?_, b1⟩
  have e9 : (r.map (zrv ad)).toList ++ st.map (zrv ad) = (r.toList ++ st).map (zrv ad) := by cases r <;> simp
  show Steps p.tables e below (T'.setTop (F0 m (pc + 3) ls ((r.map (zrv ad)).toList ++ st.map (zrv ad)))) t2
  rw [e9]
  exact a1
theorem X_callV {idx ci n q : Nat} {as : List Value} (hi : zI k pc (.invokevirtual idx) 3 nx) (hl : zML k.1.cls idx k'.1) (hm : zMV k' ci n) (hq : zob q = some ci) (hct : zCt k' d' (.ref q :: as) M Q') (hs : stk = as.reverse ++ .ref q :: st) (hn : as.length = n) (hd' : d' + 1 ≤ d) (hst : (st.map fun v => v.category).sum ≤ 8)
    (kk : ∀ r M', Q' r M' → zX k d nx lo (r.toList ++ st) M' Q) : zX k d pc lo stk M Q := by
  subst hs
  intro ad dC dI cA p l e s m args below meth c H locs ls hC hP hS hL
  obtain ⟨hd, rfl⟩ := hi
  have hC2 := hC
  obtain ⟨hx, hb, hr, hml, hown, hts, hlk, hK, hinj, hnw⟩ := hC
  obtain ⟨⟨hcode, hini, hcl, hmx⟩, hinst, hsel, hci⟩ := hm
  have hst' : ((st.map (zrv ad)).map fun v => v.category).sum ≤ 8 := by
    rw [List.map_map]
    have : ((fun v : Value => v.category) ∘ zrv ad) = fun v => v.category := funext fun v => zrv_cat ad v
    rw [this]; exact hst
  have hstk : (as.reverse ++ Value.ref q :: st).map (zrv ad) = (as.map (zrv ad)).reverse ++ Value.ref (ad q) :: st.map (zrv ad) := by simp [zrv]
  have hrecv : ∃ cell : Cell, H[ad q]? = some cell ∧ cell.vm.isStatics = false ∧ s.vm.findClass k'.1.cls = some cell.cls := by
    unfold zob at hq
    split at hq
    next o ho =>
      cases hq
      cases hv9 : vwCl[o.1]? with
      | none => rw [hv9] at hci; cases hci
      | some r =>
        rw [hv9] at hci
        obtain ⟨cell, c1, c2, c3⟩ := va_recv (a := ad q) hK hP hv9 (zws_at ho)
        exact ⟨cell, c1, c2, by rw [← Option.some.inj hci]; exact c3⟩
    next => cases hq
  have hroom : (zrm d').frames + 1 ≤ (zrm d).frames ∧ 8 + (k'.2.2.1 + 11) + (zrm d').locals ≤ (zrm d).locals := ⟨hd', by show 8 + (k'.2.2.1 + 11) + 36 * d' ≤ 36 * d; omega⟩
  have hpre : PreV s H k'.1.cls (ad q) (zPc ad dC dI cA (.ref q :: as) M) (as.map (zrv ad)) := ⟨zblind _ _ _ _ _ _, hrecv, fun U hU hW => ⟨rfl, by rw [hU]; exact hP, va_K.moved hW.alike hK, hinj, fun w hw => zn_warm hw hW (hnw w hw)⟩⟩
  rw [hstk]
  rcases hl with hl | ⟨host, hl⟩
  · exact X_back (va_runV ⟨hx, hb, hml, hown, hts⟩ (hct l ad dC dI cA) ⟨callB_of n hts (zGood hcode) rfl rfl rfl (hts _ hini) (hts _ hl) hcl hroom, hts _ hinst, hts _ hsel⟩ hpre rfl (by rw [List.length_map]; exact hn) hL.1 rfl (lv_room hst') hd ⟨Nat.le_refl _, Nat.le_refl _⟩) rfl hC2 hS hL kk
  · exact X_back (va_runVN ⟨hx, hb, hml, hown, hts⟩ (hct l ad dC dI cA) ⟨va_cnB n hts (zGood hcode) rfl rfl rfl (hnw _ hl) (hts _ hini) hcl hroom, hts _ hinst, hts _ hsel⟩ hpre rfl (by rw [List.length_map]; exact hn) hL.1 rfl (lv_room hst') hd ⟨Nat.le_refl _, Nat.le_refl _⟩) rfl hC2 hS hL kk
theorem X_callS {idx n : Nat} {as : List Value} (hi : zI k pc (.invokestatic idx) 3 nx) (hl : zML k.1.cls idx k'.1) (hm : zMS k' n) (hct : zCt k' d' as M Q') (hs : stk = as.reverse ++ st) (hn : as.length = n) (hd' : d' + 1 ≤ d) (hst : (st.map fun v => v.category).sum ≤ 8)
    (kk : ∀ r M', Q' r M' → zX k d nx lo (r.toList ++ st) M' Q) : zX k d pc lo stk M Q := by
  subst hs
  intro ad dC dI cA p l e s m args below meth c H locs ls hC hP hS hL
  obtain ⟨hd, rfl⟩ := hi
  have hC2 := hC
  obtain ⟨hx, hb, hr, hml, hown, hts, hlk, hK, hinj, hnw⟩ := hC
  obtain ⟨⟨hcode, hini, hcl, hmx⟩, hstat⟩ := hm
  have hst' : ((st.map (zrv ad)).map fun v => v.category).sum ≤ 8 := by
    rw [List.map_map]
    have : ((fun v : Value => v.category) ∘ zrv ad) = fun v => v.category := funext fun v => zrv_cat ad v
    rw [this]; exact hst
  have hstk : (as.reverse ++ st).map (zrv ad) = (as.map (zrv ad)).reverse ++ st.map (zrv ad) := by simp
  have hroom : (zrm d').frames + 1 ≤ (zrm d).frames ∧ 8 + (k'.2.2.1 + 11) + (zrm d').locals ≤ (zrm d).locals := ⟨hd', by show 8 + (k'.2.2.1 + 11) + 36 * d' ≤ 36 * d; omega⟩
  have hpre : PreS s H (zPc ad dC dI cA as M) (as.map (zrv ad)) := ⟨zblind _ _ _ _ _ _, fun U hU hW => ⟨rfl, by rw [hU]; exact hP, va_K.moved hW.alike hK, hinj, fun w hw => zn_warm hw hW (hnw w hw)⟩⟩
  rw [hstk]
  rcases hl with hl | ⟨host, hl⟩
  · exact X_back (va_runS ⟨hx, hb, hml, hown, hts⟩ (hct l ad dC dI cA) ⟨callB_of n hts (zGood hcode) rfl rfl rfl (hts _ hini) (hts _ hl) hcl hroom, hts _ hstat⟩ hpre rfl (by rw [List.length_map]; exact hn) hL.1 rfl (lv_room hst') hd ⟨Nat.le_refl _, Nat.le_refl _⟩) rfl hC2 hS hL kk
  · exact X_back (va_runSN ⟨hx, hb, hml, hown, hts⟩ (hct l ad dC dI cA) ⟨va_cnB n hts (zGood hcode) rfl rfl rfl (hnw _ hl) (hts _ hini) hcl hroom, hts _ hstat, trivial⟩ hpre rfl (by rw [List.length_map]; exact hn) hL.1 rfl (lv_room hst') hd ⟨Nat.le_refl _, Nat.le_refl _⟩) rfl hC2 hS hL kk
end ZCALL
