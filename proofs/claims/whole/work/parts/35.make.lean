theorem va_P_rot {D : va_G} {cl : List vw_C} {ws : va_W} {x : Nat × va_E} {H : Heap} (h : va_P D cl (ws ++ [x]) H) : va_P D cl (x :: ws) H := by
  intro k q hk
  match k, hk with
  | 0, hk => exact h ws.length q (by rw [List.getElem?_append_right (Nat.le_refl _), Nat.sub_self]; exact hk)
  | k + 1, hk =>
    have hl : k < ws.length := (List.getElem?_eq_some_iff.mp (show ws[k]? = some q from hk)).1
    exact h k q (by rw [List.getElem?_append_left hl]; exact hk)
theorem va_D_rot {A : Nat → Prop} {ws : va_W} {x : Nat × va_E} (h : va_D A (ws ++ [x])) : va_D A (x :: ws) := by
  have key : ∀ (k : Nat) (q : Nat × va_E), (x :: ws)[k]? = some q → ∃ j : Nat, (ws ++ [x])[j]? = some q ∧ (j = if k = 0 then ws.length else k - 1) ∧ (k ≠ 0 → k - 1 < ws.length) := by
    intro k q hk
    match k, hk with
    | 0, hk => exact ⟨ws.length, by rw [List.getElem?_append_right (Nat.le_refl _), Nat.sub_self]; exact hk, rfl, fun z => absurd rfl z⟩
    | k + 1, hk =>
      have hl : k < ws.length := (List.getElem?_eq_some_iff.mp (show ws[k]? = some q from hk)).1
      exact ⟨k, by rw [List.getElem?_append_left hl]; exact hk, by rw [if_neg (by omega)]; rfl, fun _ => hl⟩
  refine ⟨fun i j p q hi hj he => ?_, fun k q hk => ?_⟩
  · obtain ⟨i2, h1, h2, h3⟩ := key i p hi
    obtain ⟨j2, h4, h5, h6⟩ := key j q hj
    have h7 := h.1 i2 j2 p q h1 h4 he
    by_cases ei : i = 0 <;> by_cases ej : j = 0
    · omega
    · rw [if_pos ei] at h2; rw [if_neg ej] at h5; have := h6 ej; omega
    · rw [if_neg ei] at h2; rw [if_pos ej] at h5; have := h3 ei; omega
    · rw [if_neg ei] at h2; rw [if_neg ej] at h5; omega
  · obtain ⟨j, h1, _, _⟩ := key k q hk
    exact h.2 j q h1
theorem zcA {D : va_G} {cl : List vw_C} {cA c2 : ClassId} {U : State} (h : va_K D cl ([(cA, .int)] ++ [(c2, .int)]) U) : cA = c2 := by
  have h1 := (h.2 0 (cA, .int) rfl).2
  have h2 := (h.2 1 (c2, .int) rfl).2
  have h3 : U.vm.findClass ("[" ++ FieldType.int.toString) = some cA := h1
  have h4 : U.vm.findClass ("[" ++ FieldType.int.toString) = some c2 := h2
  rw [h3] at h4
  exact Option.some.inj h4
theorem va_free_all {A0 : Nat → Prop} {ws : va_W} {H0 H : Heap} {locs : List Loc} (hD : va_D A0 ws) (hS : va_S A0 H0 H locs) (hA : ∀ q, H0.size ≤ q → A0 q) : ∀ q, va_A ws H.size q → A0 q := by
  intro q h
  rcases h with ⟨k, e, h⟩ | h
  · exact hD.2 k (q, e) h
  · exact hA q (Nat.le_trans hS.1 h)
def zNp (D : va_G) (cA : ClassId) (vs : List Value) (ws : va_W) (sz : Nat) : Array Value → State → Prop := fun v U => v = vs.toArray ∧ U.heap.size = sz ∧ va_P D vwCl ws U.heap ∧ va_K D vwCl [(cA, .int)] U ∧ va_D (fun _ => True) ws ∧ ∀ w ∈ zn, va_Nw w U
theorem zNp_blind (D : va_G) (cA : ClassId) (vs : List Value) (ws : va_W) (sz : Nat) : FrameBlind (zNp D cA vs ws sz) := fun a U g mk q => ⟨q.1, q.2.1, q.2.2.1, va_K.moved (u := U) (U := U.calling g mk a) (Vm.Alike.refl U.vm) q.2.2.2.1, q.2.2.2.2.1, fun w hw => zn_same (u := U) (U := U.calling g mk a) hw rfl (q.2.2.2.2.2 w hw)⟩
/-- a constructor's contract: the world before it, and behind it, with its new addresses -/
def zNt (k : zMD) (d nc ns : Nat) (D : va_G) (cA : ClassId) (vs : List Value) (ws : va_W) (out : (Nat → Nat) → va_W) : Prop := ∀ (l : Launch) (sz : Nat), Met l k.1 (zw k) { frames := d, cells := nc, slots := ns, locals := 36 * d } (zNp D cA vs ws sz) (va_Qv (fun _ : Nat → Nat => True) (fun u t => va_P D vwCl (out u) t.heap ∧ va_K D vwCl [(cA, .int)] t ∧ va_D (va_A ws sz) (out u)) (va_A ws sz)) nc ns (va_A ws sz)
theorem zN_call {p : Program} {l : Launch} {e : Env} {R : Room} {s : State} {m : MethodId} {args : Array Value} {below : List Frame} {meth : Method} {c : Code} {H : Heap} {locs : List Loc} {cells slots : Nat} {Qf : State → Prop} {cc : ByteArray} {nL : Nat} {own : String} {ls : Array Slot} {A : Nat → Prop} {D : va_G} {cA : ClassId} {ws : va_W}
    (hx : p.tables.exec = Jvm.exec) (hb : c.code = cc) (hml : c.maxLocals = nL) (hown : s.vm.findClass own = some m.cls) (hts : ∀ w ∈ zt, w.before args s = true) (hnw : ∀ w ∈ zn, va_Nw w s) (hK : va_K D vwCl [(cA, .int)] s) (hP : va_P D vwCl ws H) (hD : va_D A ws) (hS : va_S A s.heap H locs) (hA : ∀ q, s.heap.size ≤ q → A q)
    {k' : zMD} {d' nc ns n idx pc q : Nat} {As rest : List Value} {out : (Nat → Nat) → va_W} (hct : zNt k' d' nc ns D cA (.ref q :: As) ws out) (hl : zML own idx k'.1) (hm : zMC k' n ∧ Cond.instanceMethod k'.1 ∈ zt) (hn : As.length = n) (hyn : k'.1.name = "<init>") (hret : k'.2.2.2 = none) (hroom : d' + 1 ≤ R.frames ∧ 8 + (k'.2.2.1 + 11) + 36 * d' ≤ R.locals) (hcs : cells + nc ≤ R.cells ∧ slots + ns ≤ R.slots) (hdg : decode cc pc = .ok (.invokespecial idx, 3)) (hrest : (rest.map fun v => v.category).sum ≤ 8) (hls : ls.size = nL)
    (kk : ∀ (u : Nat → Nat) (H1 : Heap) (locs1 : List Loc), va_P D vwCl (out u) H1 → va_D A (out u) → va_S A s.heap H1 locs1 → W p l e R s m args below meth c H1 locs1 (cells + nc) (slots + ns) Qf (F0 m (pc + 3) ls rest)) : W p l e R s m args below meth c H locs cells slots Qf (F0 m pc ls (As.reverse ++ .ref q :: rest)) := by
  obtain ⟨ky, kb, kl, kr⟩ := k'
  change kr = none at hret
  subst hret
  obtain ⟨⟨hcode, hini, hcl, hmx⟩, hinst⟩ := hm
  have hF := va_free_all (H := H) hD hS hA
  have hpre : PreS s H (zNp D cA (.ref q :: As) ws H.size) (.ref q :: As) := ⟨zNp_blind _ _ _ _ _, fun U hU hW => ⟨rfl, by rw [hU], by rw [hU]; exact hP, va_K.moved hW.alike hK, hD.weaken (fun _ _ _ _ => trivial), fun w hw => zn_warm hw hW (hnw w hw)⟩⟩
  have hG := zGood (k := (ky, kb, kl, none)) hcode
  refine va_callv (S := Nat → Nat) (post := fun _ => True) (B := fun u t => va_P D vwCl (out u) t.heap ∧ va_K D vwCl [(cA, .int)] t ∧ va_D (va_A ws H.size) (out u)) (A1 := va_A ws H.size) (a := (Value.ref q :: As).toArray) (free := va_A ws H.size) ?_ hS (fun q _ h => hF q h) hF (fun u t H1 locs1 ht hvm _ hB hz1 hk1 hS1 => kk u H1 locs1 (by rw [← ht]; exact hB.1) (hB.2.2.weaken (fun k q _ h => hF q.1 h)) hS1)
  rcases hl with hl | ⟨host, hl⟩
  · exact (va_runI ⟨hx, hb, hml, hown, hts⟩ (hct l H.size) ⟨callB_of n hts hG rfl rfl rfl (hts _ hini) (hts _ hl) hcl hroom, hyn, hts _ hinst⟩ hpre rfl hn hls rfl (lv_room hrest) hdg hcs)
  · exact (va_runIN ⟨hx, hb, hml, hown, hts⟩ (hct l H.size) ⟨va_cnB n hts hG rfl rfl rfl (hnw _ hl) (hts _ hini) hcl hroom, hyn, hts _ hinst⟩ hpre rfl hn hls rfl (lv_room hrest) hdg hcs)
theorem n_X0_init : zMC kX0_init 0 ∧ Cond.instanceMethod kX0_init.1 ∈ zt := ⟨⟨zt_inT zh1 27 (by decide +kernel), zt_inT zh1 2 (by decide +kernel), ⟨by decide, by decide, by decide +kernel⟩, by decide⟩, zt_inT zh1 26 (by decide +kernel)⟩
theorem n_X1_init : zMC kX1_init 0 ∧ Cond.instanceMethod kX1_init.1 ∈ zt := ⟨⟨zt_inT zh1 117 (by decide +kernel), zt_inT zh1 5 (by decide +kernel), ⟨by decide, by decide, by decide +kernel⟩, by decide⟩, zt_inT zh1 116 (by decide +kernel)⟩
theorem n_X2_init : zMC kX2_init 2 ∧ Cond.instanceMethod kX2_init.1 ∈ zt := ⟨⟨zt_inT zh1 159 (by decide +kernel), zt_inT zh1 7 (by decide +kernel), ⟨by decide, by decide, by decide +kernel⟩, by decide⟩, zt_inT zh1 158 (by decide +kernel)⟩
theorem n_X4_init : zMC kX4_init 2 ∧ Cond.instanceMethod kX4_init.1 ∈ zt := ⟨⟨zt_inT zh1 175 (by decide +kernel), zt_inT zh1 8 (by decide +kernel), ⟨by decide, by decide, by decide +kernel⟩, by decide⟩, zt_inT zh1 174 (by decide +kernel)⟩
theorem n_X6_init : zMC kX6_init 1 ∧ Cond.instanceMethod kX6_init.1 ∈ zt := ⟨⟨zt_inT zh1 98 (by decide +kernel), zt_inT zh1 3 (by decide +kernel), ⟨by decide, by decide, by decide +kernel⟩, by decide⟩, zt_inT zh1 97 (by decide +kernel)⟩
theorem n_X7_init : zMC kX7_init 2 ∧ Cond.instanceMethod kX7_init.1 ∈ zt := ⟨⟨zt_inT zh1 146 (by decide +kernel), zt_inT zh1 6 (by decide +kernel), ⟨by decide, by decide, by decide +kernel⟩, by decide⟩, zt_inT zh1 145 (by decide +kernel)⟩
theorem n_X9_init : zMC kX9_init 0 ∧ Cond.instanceMethod kX9_init.1 ∈ zt := ⟨⟨zt_inT zh1 19 (by decide +kernel), zt_inT zh1 1 (by decide +kernel), ⟨by decide, by decide, by decide +kernel⟩, by decide⟩, zt_inT zh1 18 (by decide +kernel)⟩
theorem n_X10_init : zMC kX10_init 0 ∧ Cond.instanceMethod kX10_init.1 ∈ zt := ⟨⟨zt_inT zh4 133 (by decide +kernel), zt_inT zh1 9 (by decide +kernel), ⟨by decide, by decide, by decide +kernel⟩, by decide⟩, zt_inT zh4 132 (by decide +kernel)⟩
abbrev zO9 (a ci : Nat) (fs : List Value) : Nat × va_E := (a, .inr (ci, fs))
abbrev zR9 (cA : ClassId) (a n : Nat) : Nat × va_E := (a, .inl (cA, (n, .inl (fun _ => 0))))
abbrev zC9 (x : Nat × va_E) (w : va_W) : va_W := x :: w
abbrev zS9 (w : va_W) (x : Nat × va_E) : va_W := w ++ [x]
theorem zwd_0 : (Jvm.Cond.methodLink "PouredForLeaving$Afternoon" (3 : Nat) ({ cls := "java/lang/Object", name := "<init>", desc := "()V" } : Jvm.MethodName)) ∈ zt := zt_inT zh1 28 (by decide +kernel)
theorem zwd_1 : (Jvm.Cond.instanceMethod ({ cls := "java/lang/Object", name := "<init>", desc := "()V" } : Jvm.MethodName)) ∈ zt := zt_inT zh1 21 (by decide +kernel)
theorem zwd_2 : (Jvm.Cond.code ({ cls := "java/lang/Object", name := "<init>", desc := "()V" } : Jvm.MethodName) object_method_1_code (1 : Nat) (Option.none : Option Jvm.ClassFile.FieldType)) ∈ zt := zt_inT zh1 22 (by decide +kernel)
theorem zwd_3 : (Jvm.Cond.arrayClass Jvm.ClassFile.FieldType.int) ∈ zt := zt_inT zh1 93 (by decide +kernel)
theorem zwd_4 : (Jvm.Cond.fieldLink "PouredForLeaving$Afternoon" (9 : Nat) "PouredForLeaving$Afternoon" "kind" "[I") ∈ zt := zt_inT zh1 29 (by decide +kernel)
theorem zwd_5 : (Jvm.Cond.fieldLink "PouredForLeaving$Afternoon" (15 : Nat) "PouredForLeaving$Afternoon" "figure" "[I") ∈ zt := zt_inT zh1 31 (by decide +kernel)
theorem zwd_6 : (Jvm.Cond.fieldLink "PouredForLeaving$Afternoon" (18 : Nat) "PouredForLeaving$Afternoon" "thirst" "[I") ∈ zt := zt_inT zh1 32 (by decide +kernel)
theorem zwd_7 : (Jvm.Cond.fieldLink "PouredForLeaving$Afternoon" (21 : Nat) "PouredForLeaving$Afternoon" "state" "[I") ∈ zt := zt_inT zh1 35 (by decide +kernel)
theorem zwd_8 : (Jvm.Cond.fieldLink "PouredForLeaving$Afternoon" (24 : Nat) "PouredForLeaving$Afternoon" "stood" "[I") ∈ zt := zt_inT zh1 42 (by decide +kernel)
theorem zwd_9 : (Jvm.Cond.fieldLink "PouredForLeaving$Afternoon" (27 : Nat) "PouredForLeaving$Afternoon" "had" "[I") ∈ zt := zt_inT zh1 44 (by decide +kernel)
theorem zwd_10 : (Jvm.Cond.fieldLink "PouredForLeaving$Afternoon" (30 : Nat) "PouredForLeaving$Afternoon" "guests" "I") ∈ zt := zt_inT zh1 47 (by decide +kernel)
theorem zwd_11 : (Jvm.Cond.fieldLink "PouredForLeaving$Afternoon" (34 : Nat) "PouredForLeaving$Afternoon" "cups" "I") ∈ zt := zt_inT zh1 52 (by decide +kernel)
theorem zwd_12 : (Jvm.Cond.fieldLink "PouredForLeaving$Afternoon" (37 : Nat) "PouredForLeaving$Afternoon" "rule" "I") ∈ zt := zt_inT zh1 58 (by decide +kernel)
theorem zwd_13 : (Jvm.Cond.fieldLink "PouredForLeaving$Afternoon" (40 : Nat) "PouredForLeaving$Afternoon" "minute" "I") ∈ zt := zt_inT zh1 63 (by decide +kernel)
theorem zwd_14 : (Jvm.Cond.fieldLink "PouredForLeaving$Afternoon" (43 : Nat) "PouredForLeaving$Afternoon" "poured" "I") ∈ zt := zt_inT zh1 65 (by decide +kernel)
theorem zwd_15 : (Jvm.Cond.methodLink "PouredForLeaving$Numbers" (1 : Nat) ({ cls := "java/lang/Object", name := "<init>", desc := "()V" } : Jvm.MethodName)) ∈ zt := zt_inT zh1 99 (by decide +kernel)
theorem zwd_16 : (Jvm.Cond.fieldLink "PouredForLeaving$Numbers" (7 : Nat) "PouredForLeaving$Numbers" "size" "I") ∈ zt := zt_inT zh1 104 (by decide +kernel)
theorem zwd_17 : (Jvm.Cond.fieldLink "PouredForLeaving$Numbers" (19 : Nat) "PouredForLeaving$Numbers" "numbers" "[I") ∈ zt := zt_inT zh1 103 (by decide +kernel)
theorem zwd_18 : (Jvm.Cond.methodLink "PouredForLeaving$Changes" (3 : Nat) ({ cls := "java/lang/Object", name := "<init>", desc := "()V" } : Jvm.MethodName)) ∈ zt := zt_inT zh1 118 (by decide +kernel)
theorem zwd_19 : (Jvm.Cond.fieldLink "PouredForLeaving$Changes" (9 : Nat) "PouredForLeaving$Changes" "guest" "[I") ∈ zt := zt_inT zh1 119 (by decide +kernel)
theorem zwd_20 : (Jvm.Cond.fieldLink "PouredForLeaving$Changes" (15 : Nat) "PouredForLeaving$Changes" "state" "[I") ∈ zt := zt_inT zh1 120 (by decide +kernel)
theorem zwd_21 : (Jvm.Cond.fieldLink "PouredForLeaving$Changes" (18 : Nat) "PouredForLeaving$Changes" "stood" "[I") ∈ zt := zt_inT zh1 121 (by decide +kernel)
theorem zwd_22 : (Jvm.Cond.fieldLink "PouredForLeaving$Changes" (21 : Nat) "PouredForLeaving$Changes" "cups" "[I") ∈ zt := zt_inT zh1 122 (by decide +kernel)
theorem zwd_23 : (Jvm.Cond.fieldLink "PouredForLeaving$Changes" (24 : Nat) "PouredForLeaving$Changes" "rule" "[I") ∈ zt := zt_inT zh1 123 (by decide +kernel)
theorem zwd_24 : (Jvm.Cond.fieldLink "PouredForLeaving$Changes" (27 : Nat) "PouredForLeaving$Changes" "next" "I") ∈ zt := zt_inT zh1 124 (by decide +kernel)
theorem zwd_25 : (Jvm.Cond.fieldLink "PouredForLeaving$Changes" (31 : Nat) "PouredForLeaving$Changes" "size" "I") ∈ zt := zt_inT zh1 125 (by decide +kernel)
theorem zwd_26 : (Jvm.Cond.methodLink "PouredForLeaving$Outlook" (3 : Nat) ({ cls := "java/lang/Object", name := "<init>", desc := "()V" } : Jvm.MethodName)) ∈ zt := zt_inT zh1 147 (by decide +kernel)
theorem zwd_27 : (Jvm.Cond.fieldLink "PouredForLeaving$Outlook" (9 : Nat) "PouredForLeaving$Outlook" "now" "LPouredForLeaving$Afternoon;") ∈ zt := zt_inT zh1 148 (by decide +kernel)
theorem zwd_28 : (Jvm.Cond.fieldLink "PouredForLeaving$Outlook" (15 : Nat) "PouredForLeaving$Outlook" "then" "LPouredForLeaving$Afternoon;") ∈ zt := zt_inT zh1 149 (by decide +kernel)
theorem zwd_29 : (Jvm.Cond.methodLink "PouredForLeaving$Choices" (3 : Nat) ({ cls := "java/lang/Object", name := "<init>", desc := "()V" } : Jvm.MethodName)) ∈ zt := zt_inT zh1 160 (by decide +kernel)
theorem zwd_30 : (Jvm.Cond.fieldLink "PouredForLeaving$Choices" (9 : Nat) "PouredForLeaving$Choices" "leaving" "[I") ∈ zt := zt_inT zh1 163 (by decide +kernel)
theorem zwd_31 : (Jvm.Cond.fieldLink "PouredForLeaving$Choices" (15 : Nat) "PouredForLeaving$Choices" "now" "LPouredForLeaving$Afternoon;") ∈ zt := zt_inT zh1 161 (by decide +kernel)
theorem zwd_32 : (Jvm.Cond.fieldLink "PouredForLeaving$Choices" (19 : Nat) "PouredForLeaving$Choices" "then" "LPouredForLeaving$Afternoon;") ∈ zt := zt_inT zh1 162 (by decide +kernel)
theorem zwd_33 : (Jvm.Cond.methodLink "PouredForLeaving$Guesses" (3 : Nat) ({ cls := "java/lang/Object", name := "<init>", desc := "()V" } : Jvm.MethodName)) ∈ zt := zt_inT zh1 176 (by decide +kernel)
theorem zwd_34 : (Jvm.Cond.fieldLink "PouredForLeaving$Guesses" (9 : Nat) "PouredForLeaving$Guesses" "seen" "[I") ∈ zt := zt_inT zh1 179 (by decide +kernel)
theorem zwd_35 : (Jvm.Cond.fieldLink "PouredForLeaving$Guesses" (15 : Nat) "PouredForLeaving$Guesses" "now" "LPouredForLeaving$Afternoon;") ∈ zt := zt_inT zh1 177 (by decide +kernel)
theorem zwd_36 : (Jvm.Cond.fieldLink "PouredForLeaving$Guesses" (19 : Nat) "PouredForLeaving$Guesses" "then" "LPouredForLeaving$Afternoon;") ∈ zt := zt_inT zh1 178 (by decide +kernel)
theorem zwd_37 : (Jvm.Cond.methodLink "PouredForLeavingModel" (1 : Nat) ({ cls := "java/lang/Object", name := "<init>", desc := "()V" } : Jvm.MethodName)) ∈ zt := zt_inT zh4 134 (by decide +kernel)
theorem zwd_38 : (Jvm.Cond.fieldLink "PouredForLeavingModel" (7 : Nat) "PouredForLeavingModel" "refused" "[I") ∈ zt := zt_inT zh4 135 (by decide +kernel)
theorem zwd_39 : (Jvm.Cond.fieldLink "PouredForLeavingModel" (13 : Nat) "PouredForLeavingModel" "kind" "[I") ∈ zt := zt_inT zh4 136 (by decide +kernel)
theorem zwd_40 : (Jvm.Cond.fieldLink "PouredForLeavingModel" (16 : Nat) "PouredForLeavingModel" "figure" "[I") ∈ zt := zt_inT zh4 137 (by decide +kernel)
theorem zwd_41 : (Jvm.Cond.fieldLink "PouredForLeavingModel" (19 : Nat) "PouredForLeavingModel" "thirst" "[I") ∈ zt := zt_inT zh4 138 (by decide +kernel)
theorem zwd_42 : (Jvm.Cond.fieldLink "PouredForLeavingModel" (22 : Nat) "PouredForLeavingModel" "state" "[I") ∈ zt := zt_inT zh4 139 (by decide +kernel)
theorem zwd_43 : (Jvm.Cond.fieldLink "PouredForLeavingModel" (25 : Nat) "PouredForLeavingModel" "stood" "[I") ∈ zt := zt_inT zh4 140 (by decide +kernel)
theorem zwd_44 : (Jvm.Cond.fieldLink "PouredForLeavingModel" (28 : Nat) "PouredForLeavingModel" "had" "[I") ∈ zt := zt_inT zh4 141 (by decide +kernel)
theorem zwd_45 : (Jvm.Cond.fieldLink "PouredForLeavingModel" (31 : Nat) "PouredForLeavingModel" "tape" "[I") ∈ zt := zt_inT zh4 147 (by decide +kernel)
theorem zwd_46 : (Jvm.Cond.fieldLink "PouredForLeavingModel" (34 : Nat) "PouredForLeavingModel" "letter" "[I") ∈ zt := zt_inT zh4 148 (by decide +kernel)
theorem zwd_47 : (Jvm.Cond.fieldLink "PouredForLeavingModel" (37 : Nat) "PouredForLeavingModel" "letterAt" "[I") ∈ zt := zt_inT zh4 149 (by decide +kernel)
theorem zwd_48 : (Jvm.Cond.fieldLink "PouredForLeavingModel" (40 : Nat) "PouredForLeavingModel" "told" "[I") ∈ zt := zt_inT zh4 150 (by decide +kernel)
theorem zwd_49 : (Jvm.Cond.fieldLink "PouredForLeavingModel" (43 : Nat) "PouredForLeavingModel" "kept" "[I") ∈ zt := zt_inT zh4 154 (by decide +kernel)
theorem zwd_50 : (Jvm.Cond.fieldLink "PouredForLeavingModel" (46 : Nat) "PouredForLeavingModel" "servedRow" "[I") ∈ zt := zt_inT zh4 159 (by decide +kernel)
theorem zwd_51 : (Jvm.Cond.fieldLink "PouredForLeavingModel" (49 : Nat) "PouredForLeavingModel" "row" "[I") ∈ zt := zt_inT zh4 161 (by decide +kernel)
theorem zwd_52 : (Jvm.Cond.fieldLink "PouredForLeavingModel" (52 : Nat) "PouredForLeavingModel" "statesAt" "[I") ∈ zt := zt_inT zh4 163 (by decide +kernel)
theorem zwd_53 : (Jvm.Cond.fieldLink "PouredForLeavingModel" (55 : Nat) "PouredForLeavingModel" "standing" "[I") ∈ zt := zt_inT zh4 164 (by decide +kernel)
theorem zwd_54 : (Jvm.Cond.fieldLink "PouredForLeavingModel" (58 : Nat) "PouredForLeavingModel" "cups" "I") ∈ zt := zt_inT zh4 143 (by decide +kernel)
theorem zwd_55 : (Jvm.Cond.methodLink "PouredForLeaving" (1 : Nat) ({ cls := "java/lang/Object", name := "<init>", desc := "()V" } : Jvm.MethodName)) ∈ zt := zt_inT zh1 20 (by decide +kernel)
theorem zwd_56 : (Jvm.Cond.classLink "PouredForLeaving" (7 : Nat) "PouredForLeaving$Afternoon") ∈ zt := zt_inT zh1 23 (by decide +kernel)
theorem zwd_57 : (Jvm.Cond.instantiable "PouredForLeaving$Afternoon" (11 : Nat)) ∈ zt := zt_inT zh1 24 (by decide +kernel)
theorem zwd_58 : (Jvm.Cond.fieldLink "PouredForLeaving" (10 : Nat) "PouredForLeaving" "now" "LPouredForLeaving$Afternoon;") ∈ zt := zt_inT zh1 187 (by decide +kernel)
theorem zwd_59 : (Jvm.Cond.fieldLink "PouredForLeaving" (16 : Nat) "PouredForLeaving" "then" "LPouredForLeaving$Afternoon;") ∈ zt := zt_inT zh1 188 (by decide +kernel)
theorem zwd_60 : (Jvm.Cond.fieldLink "PouredForLeaving" (19 : Nat) "PouredForLeaving" "picture" "LPouredForLeaving$Afternoon;") ∈ zt := zt_inT zh1 189 (by decide +kernel)
theorem zwd_61 : (Jvm.Cond.classLink "PouredForLeaving" (22 : Nat) "PouredForLeaving$Numbers") ∈ zt := zt_inT zh1 94 (by decide +kernel)
theorem zwd_62 : (Jvm.Cond.instantiable "PouredForLeaving$Numbers" (2 : Nat)) ∈ zt := zt_inT zh1 95 (by decide +kernel)
theorem zwd_63 : (Jvm.Cond.fieldLink "PouredForLeaving" (27 : Nat) "PouredForLeaving" "letters" "LPouredForLeaving$Numbers;") ∈ zt := zt_inT zh1 190 (by decide +kernel)
theorem zwd_64 : (Jvm.Cond.fieldLink "PouredForLeaving" (31 : Nat) "PouredForLeaving" "told" "LPouredForLeaving$Numbers;") ∈ zt := zt_inT zh1 191 (by decide +kernel)
theorem zwd_65 : (Jvm.Cond.classLink "PouredForLeaving" (34 : Nat) "PouredForLeaving$Changes") ∈ zt := zt_inT zh1 113 (by decide +kernel)
theorem zwd_66 : (Jvm.Cond.instantiable "PouredForLeaving$Changes" (7 : Nat)) ∈ zt := zt_inT zh1 114 (by decide +kernel)
theorem zwd_67 : (Jvm.Cond.fieldLink "PouredForLeaving" (37 : Nat) "PouredForLeaving" "changes" "LPouredForLeaving$Changes;") ∈ zt := zt_inT zh1 192 (by decide +kernel)
theorem zwd_68 : (Jvm.Cond.classLink "PouredForLeaving" (41 : Nat) "PouredForLeaving$Outlook") ∈ zt := zt_inT zh1 142 (by decide +kernel)
theorem zwd_69 : (Jvm.Cond.instantiable "PouredForLeaving$Outlook" (2 : Nat)) ∈ zt := zt_inT zh1 143 (by decide +kernel)
theorem zwd_70 : (Jvm.Cond.fieldLink "PouredForLeaving" (46 : Nat) "PouredForLeaving" "outlook" "LPouredForLeaving$Outlook;") ∈ zt := zt_inT zh1 193 (by decide +kernel)
theorem zwd_71 : (Jvm.Cond.classLink "PouredForLeaving" (50 : Nat) "PouredForLeaving$Choices") ∈ zt := zt_inT zh1 155 (by decide +kernel)
theorem zwd_72 : (Jvm.Cond.instantiable "PouredForLeaving$Choices" (3 : Nat)) ∈ zt := zt_inT zh1 156 (by decide +kernel)
theorem zwd_73 : (Jvm.Cond.fieldLink "PouredForLeaving" (53 : Nat) "PouredForLeaving" "choices" "LPouredForLeaving$Choices;") ∈ zt := zt_inT zh1 194 (by decide +kernel)
theorem zwd_74 : (Jvm.Cond.classLink "PouredForLeaving" (57 : Nat) "PouredForLeaving$Guesses") ∈ zt := zt_inT zh1 171 (by decide +kernel)
theorem zwd_75 : (Jvm.Cond.instantiable "PouredForLeaving$Guesses" (3 : Nat)) ∈ zt := zt_inT zh1 172 (by decide +kernel)
theorem zwd_76 : (Jvm.Cond.fieldLink "PouredForLeaving" (60 : Nat) "PouredForLeaving" "guesses" "LPouredForLeaving$Guesses;") ∈ zt := zt_inT zh1 195 (by decide +kernel)
theorem zwd_77 : (Jvm.Cond.fieldLink "PouredForLeaving" (64 : Nat) "PouredForLeaving" "refusals" "[I") ∈ zt := zt_inT zh1 196 (by decide +kernel)
theorem zwd_78 : (Jvm.Cond.fieldLink "PouredForLeaving" (68 : Nat) "PouredForLeaving" "pictured" "Z") ∈ zt := zt_inT zh1 197 (by decide +kernel)
theorem zwd_79 : (Jvm.Cond.classLink "PouredForLeavingLaw" (7 : Nat) "PouredForLeaving") ∈ zt := zt_inT zh1 15 (by decide +kernel)
theorem zwd_80 : (Jvm.Cond.instantiable "PouredForLeaving" (11 : Nat)) ∈ zt := zt_inT zh1 16 (by decide +kernel)
theorem zwd_81 : (Jvm.Cond.classLink "PouredForLeavingLaw" (10 : Nat) "PouredForLeavingModel") ∈ zt := zt_inT zh4 129 (by decide +kernel)
theorem zwd_82 : (Jvm.Cond.instantiable "PouredForLeavingModel" (30 : Nat)) ∈ zt := zt_inT zh4 130 (by decide +kernel)
set_option maxHeartbeats 4000000 in
set_option maxRecDepth 100000 in
theorem c_X0_init (dC : Nat → ClassId) (dI : Nat → Nat → Nat) (cA : ClassId) (pre : va_W) (h0 : Nat) : zNt kX0_init 1 6 36 (dC, dI) cA [.ref h0] ((zC9 (zO9 h0 0 [.null, .null, .null, .null, .null, .null, .int 0, .int 0, .int 0, .int 0, .int 0]) pre)) (fun u => (zC9 (zO9 h0 0 [.ref (u 0), .ref (u 1), .ref (u 2), .ref (u 3), .ref (u 4), .ref (u 5), .int 0, .int 1, .int 0, .int 0, .int 0]) (zS9 (zS9 (zS9 (zS9 (zS9 (zS9 pre (zR9 cA (u 0) 6)) (zR9 cA (u 1) 6)) (zR9 cA (u 2) 6)) (zR9 cA (u 3) 6)) (zR9 cA (u 4) 6)) (zR9 cA (u 5) 6)))) := by
  intro l sz
  refine Met.ofW (cc := kX0_init.2.1) (maxL := 1) (ret := none) (ws' := zt) (by decide) rfl ?_
  intro p e s m args below meth c s₁ B hml hv
  obtain ⟨rfl, hsz, hP, hK, hD0, hnw⟩ := hv
  have hx := B.exec
  have hb : c.code = kX0_init.2.1 := B.bytes
  have hr := B.returns
  have hts0 := atoms_spec (ws := zw kX0_init) B.pre
  have hts : ∀ w ∈ zt, w.before _ s = true := fun w hw => hts0 w (List.mem_cons_of_mem _ hw)
  have hown : s.vm.findClass RX0 = some m.cls := findClass_of_methodNamed B.named
  have hlocks := B.notSynchronized
  have hin : meth.name = "<init>" := (name_of_methodNamed B.named B.method).1
  subst hsz
  have hD := hD0.self (sz := s.heap.size)
  generalize hAe : va_A ((zC9 (zO9 h0 0 [.null, .null, .null, .null, .null, .null, .int 0, .int 0, .int 0, .int 0, .int 0]) pre)) s.heap.size = A at hD ⊢
  have hA : ∀ q : Nat, s.heap.size ≤ q → A q := fun q h => by rw [← hAe]; exact Or.inr h
  have hS : va_S A s.heap s.heap [] := va_S.rf
  have hl := lv_entry ([.ref h0]) (n := 1) (Nat.le_of_ble_eq_true rfl)
  rw [lg_entry_eq]
  generalize (lg_sl ([.ref h0]) ++ List.replicate (1 - (lg_sl ([.ref h0])).length) Slot.unset).toArray = ls at hl ⊢
  have hl : lv_has ls 1 [(0, .ref h0)] := hl
  refine lv_aload_n hx hb i_X0_init_0.1 rfl (lv_at hl 0 rfl) ?_
  refine W.objInit hx hb hown (hts (.methodLink RX0 3 objectInit) (zwd_0)) (hts (.instanceMethod objectInit) (zwd_1)) (hts _ (zwd_2)) rfl (by rw [hml]; exact hl.1) rfl i_X0_init_1.1 (Nat.le_of_ble_eq_true rfl) (Nat.le_of_ble_eq_true rfl) ?_
  refine W.eq (g2 := F0 m 4 ls []) rfl ?_
  refine lv_aload_n hx hb i_X0_init_4.1 rfl (lv_at hl 0 rfl) ?_
  refine lv_bipush (v := 6) hx hb i_X0_init_5.1 (by decide +kernel) ?_
  refine va_newa (atype := .int) (ty := .int) (a0 := (6, .inl (fun _ => 0))) (N' := 6) hx hb (hts (.arrayClass .int) (zwd_3)) rfl hK hP hD hS hA (fun _ => rfl) (by decide +kernel) (by decide +kernel) (Nat.le_of_ble_eq_true rfl) (Nat.le_of_ble_eq_true rfl) (Nat.le_of_ble_eq_true rfl) i_X0_init_7.1 (fun q1 cA2 H hK2 hP hD hS => ?_)
  obtain rfl : cA = cA2 := zcA hK2
  have hP : va_P (dC, dI) vwCl ((zC9 (zO9 h0 0 [.null, .null, .null, .null, .null, .null, .int 0, .int 0, .int 0, .int 0, .int 0]) (zS9 pre (zR9 cA q1 6)))) H := hP
  have hD : va_D A ((zC9 (zO9 h0 0 [.null, .null, .null, .null, .null, .null, .int 0, .int 0, .int 0, .int 0, .int 0]) (zS9 pre (zR9 cA q1 6)))) := hD
  refine va_putF (D := (dC, dI)) (ci := 0) (v := .ref q1) (C := RX0) (T := TX0) (N := 11) hx hb hts zK0.2.1 tyX0 tyX0_ok nmX0 hown hK hP hD hS 0 rfl rfl 0 (by decide) (hts _ (zwd_4)) (fun _ h9 => h9) rfl hin rfl (tyX0_ok 0 (by decide)) rfl rfl (Nat.le_of_ble_eq_true rfl) i_X0_init_9.1 (fun H locs hP hD hS => ?_)
  have hP : va_P (dC, dI) vwCl ((zC9 (zO9 h0 0 [.ref q1, .null, .null, .null, .null, .null, .int 0, .int 0, .int 0, .int 0, .int 0]) (zS9 pre (zR9 cA q1 6)))) H := hP
  have hD : va_D A ((zC9 (zO9 h0 0 [.ref q1, .null, .null, .null, .null, .null, .int 0, .int 0, .int 0, .int 0, .int 0]) (zS9 pre (zR9 cA q1 6)))) := hD
  refine lv_aload_n hx hb i_X0_init_12.1 rfl (lv_at hl 0 rfl) ?_
  refine lv_bipush (v := 6) hx hb i_X0_init_13.1 (by decide +kernel) ?_
  refine va_newa (atype := .int) (ty := .int) (a0 := (6, .inl (fun _ => 0))) (N' := 6) hx hb (hts (.arrayClass .int) (zwd_3)) rfl hK hP hD hS hA (fun _ => rfl) (by decide +kernel) (by decide +kernel) (Nat.le_of_ble_eq_true rfl) (Nat.le_of_ble_eq_true rfl) (Nat.le_of_ble_eq_true rfl) i_X0_init_15.1 (fun q2 cA2 H hK2 hP hD hS => ?_)
  obtain rfl : cA = cA2 := zcA hK2
  have hP : va_P (dC, dI) vwCl ((zC9 (zO9 h0 0 [.ref q1, .null, .null, .null, .null, .null, .int 0, .int 0, .int 0, .int 0, .int 0]) (zS9 (zS9 pre (zR9 cA q1 6)) (zR9 cA q2 6)))) H := hP
  have hD : va_D A ((zC9 (zO9 h0 0 [.ref q1, .null, .null, .null, .null, .null, .int 0, .int 0, .int 0, .int 0, .int 0]) (zS9 (zS9 pre (zR9 cA q1 6)) (zR9 cA q2 6)))) := hD
  refine va_putF (D := (dC, dI)) (ci := 0) (v := .ref q2) (C := RX0) (T := TX0) (N := 11) hx hb hts zK0.2.1 tyX0 tyX0_ok nmX0 hown hK hP hD hS 0 rfl rfl 1 (by decide) (hts _ (zwd_5)) (fun _ h9 => h9) rfl hin rfl (tyX0_ok 1 (by decide)) rfl rfl (Nat.le_of_ble_eq_true rfl) i_X0_init_17.1 (fun H locs hP hD hS => ?_)
  have hP : va_P (dC, dI) vwCl ((zC9 (zO9 h0 0 [.ref q1, .ref q2, .null, .null, .null, .null, .int 0, .int 0, .int 0, .int 0, .int 0]) (zS9 (zS9 pre (zR9 cA q1 6)) (zR9 cA q2 6)))) H := hP
  have hD : va_D A ((zC9 (zO9 h0 0 [.ref q1, .ref q2, .null, .null, .null, .null, .int 0, .int 0, .int 0, .int 0, .int 0]) (zS9 (zS9 pre (zR9 cA q1 6)) (zR9 cA q2 6)))) := hD
  refine lv_aload_n hx hb i_X0_init_20.1 rfl (lv_at hl 0 rfl) ?_
  refine lv_bipush (v := 6) hx hb i_X0_init_21.1 (by decide +kernel) ?_
  refine va_newa (atype := .int) (ty := .int) (a0 := (6, .inl (fun _ => 0))) (N' := 6) hx hb (hts (.arrayClass .int) (zwd_3)) rfl hK hP hD hS hA (fun _ => rfl) (by decide +kernel) (by decide +kernel) (Nat.le_of_ble_eq_true rfl) (Nat.le_of_ble_eq_true rfl) (Nat.le_of_ble_eq_true rfl) i_X0_init_23.1 (fun q3 cA2 H hK2 hP hD hS => ?_)
  obtain rfl : cA = cA2 := zcA hK2
  have hP : va_P (dC, dI) vwCl ((zC9 (zO9 h0 0 [.ref q1, .ref q2, .null, .null, .null, .null, .int 0, .int 0, .int 0, .int 0, .int 0]) (zS9 (zS9 (zS9 pre (zR9 cA q1 6)) (zR9 cA q2 6)) (zR9 cA q3 6)))) H := hP
  have hD : va_D A ((zC9 (zO9 h0 0 [.ref q1, .ref q2, .null, .null, .null, .null, .int 0, .int 0, .int 0, .int 0, .int 0]) (zS9 (zS9 (zS9 pre (zR9 cA q1 6)) (zR9 cA q2 6)) (zR9 cA q3 6)))) := hD
  refine va_putF (D := (dC, dI)) (ci := 0) (v := .ref q3) (C := RX0) (T := TX0) (N := 11) hx hb hts zK0.2.1 tyX0 tyX0_ok nmX0 hown hK hP hD hS 0 rfl rfl 2 (by decide) (hts _ (zwd_6)) (fun _ h9 => h9) rfl hin rfl (tyX0_ok 2 (by decide)) rfl rfl (Nat.le_of_ble_eq_true rfl) i_X0_init_25.1 (fun H locs hP hD hS => ?_)
  have hP : va_P (dC, dI) vwCl ((zC9 (zO9 h0 0 [.ref q1, .ref q2, .ref q3, .null, .null, .null, .int 0, .int 0, .int 0, .int 0, .int 0]) (zS9 (zS9 (zS9 pre (zR9 cA q1 6)) (zR9 cA q2 6)) (zR9 cA q3 6)))) H := hP
  have hD : va_D A ((zC9 (zO9 h0 0 [.ref q1, .ref q2, .ref q3, .null, .null, .null, .int 0, .int 0, .int 0, .int 0, .int 0]) (zS9 (zS9 (zS9 pre (zR9 cA q1 6)) (zR9 cA q2 6)) (zR9 cA q3 6)))) := hD
  refine lv_aload_n hx hb i_X0_init_28.1 rfl (lv_at hl 0 rfl) ?_
  refine lv_bipush (v := 6) hx hb i_X0_init_29.1 (by decide +kernel) ?_
  refine va_newa (atype := .int) (ty := .int) (a0 := (6, .inl (fun _ => 0))) (N' := 6) hx hb (hts (.arrayClass .int) (zwd_3)) rfl hK hP hD hS hA (fun _ => rfl) (by decide +kernel) (by decide +kernel) (Nat.le_of_ble_eq_true rfl) (Nat.le_of_ble_eq_true rfl) (Nat.le_of_ble_eq_true rfl) i_X0_init_31.1 (fun q4 cA2 H hK2 hP hD hS => ?_)
  obtain rfl : cA = cA2 := zcA hK2
  have hP : va_P (dC, dI) vwCl ((zC9 (zO9 h0 0 [.ref q1, .ref q2, .ref q3, .null, .null, .null, .int 0, .int 0, .int 0, .int 0, .int 0]) (zS9 (zS9 (zS9 (zS9 pre (zR9 cA q1 6)) (zR9 cA q2 6)) (zR9 cA q3 6)) (zR9 cA q4 6)))) H := hP
  have hD : va_D A ((zC9 (zO9 h0 0 [.ref q1, .ref q2, .ref q3, .null, .null, .null, .int 0, .int 0, .int 0, .int 0, .int 0]) (zS9 (zS9 (zS9 (zS9 pre (zR9 cA q1 6)) (zR9 cA q2 6)) (zR9 cA q3 6)) (zR9 cA q4 6)))) := hD
  refine va_putF (D := (dC, dI)) (ci := 0) (v := .ref q4) (C := RX0) (T := TX0) (N := 11) hx hb hts zK0.2.1 tyX0 tyX0_ok nmX0 hown hK hP hD hS 0 rfl rfl 3 (by decide) (hts _ (zwd_7)) (fun _ h9 => h9) rfl hin rfl (tyX0_ok 3 (by decide)) rfl rfl (Nat.le_of_ble_eq_true rfl) i_X0_init_33.1 (fun H locs hP hD hS => ?_)
  have hP : va_P (dC, dI) vwCl ((zC9 (zO9 h0 0 [.ref q1, .ref q2, .ref q3, .ref q4, .null, .null, .int 0, .int 0, .int 0, .int 0, .int 0]) (zS9 (zS9 (zS9 (zS9 pre (zR9 cA q1 6)) (zR9 cA q2 6)) (zR9 cA q3 6)) (zR9 cA q4 6)))) H := hP
  have hD : va_D A ((zC9 (zO9 h0 0 [.ref q1, .ref q2, .ref q3, .ref q4, .null, .null, .int 0, .int 0, .int 0, .int 0, .int 0]) (zS9 (zS9 (zS9 (zS9 pre (zR9 cA q1 6)) (zR9 cA q2 6)) (zR9 cA q3 6)) (zR9 cA q4 6)))) := hD
  refine lv_aload_n hx hb i_X0_init_36.1 rfl (lv_at hl 0 rfl) ?_
  refine lv_bipush (v := 6) hx hb i_X0_init_37.1 (by decide +kernel) ?_
  refine va_newa (atype := .int) (ty := .int) (a0 := (6, .inl (fun _ => 0))) (N' := 6) hx hb (hts (.arrayClass .int) (zwd_3)) rfl hK hP hD hS hA (fun _ => rfl) (by decide +kernel) (by decide +kernel) (Nat.le_of_ble_eq_true rfl) (Nat.le_of_ble_eq_true rfl) (Nat.le_of_ble_eq_true rfl) i_X0_init_39.1 (fun q5 cA2 H hK2 hP hD hS => ?_)
  obtain rfl : cA = cA2 := zcA hK2
  have hP : va_P (dC, dI) vwCl ((zC9 (zO9 h0 0 [.ref q1, .ref q2, .ref q3, .ref q4, .null, .null, .int 0, .int 0, .int 0, .int 0, .int 0]) (zS9 (zS9 (zS9 (zS9 (zS9 pre (zR9 cA q1 6)) (zR9 cA q2 6)) (zR9 cA q3 6)) (zR9 cA q4 6)) (zR9 cA q5 6)))) H := hP
  have hD : va_D A ((zC9 (zO9 h0 0 [.ref q1, .ref q2, .ref q3, .ref q4, .null, .null, .int 0, .int 0, .int 0, .int 0, .int 0]) (zS9 (zS9 (zS9 (zS9 (zS9 pre (zR9 cA q1 6)) (zR9 cA q2 6)) (zR9 cA q3 6)) (zR9 cA q4 6)) (zR9 cA q5 6)))) := hD
  refine va_putF (D := (dC, dI)) (ci := 0) (v := .ref q5) (C := RX0) (T := TX0) (N := 11) hx hb hts zK0.2.1 tyX0 tyX0_ok nmX0 hown hK hP hD hS 0 rfl rfl 4 (by decide) (hts _ (zwd_8)) (fun _ h9 => h9) rfl hin rfl (tyX0_ok 4 (by decide)) rfl rfl (Nat.le_of_ble_eq_true rfl) i_X0_init_41.1 (fun H locs hP hD hS => ?_)
  have hP : va_P (dC, dI) vwCl ((zC9 (zO9 h0 0 [.ref q1, .ref q2, .ref q3, .ref q4, .ref q5, .null, .int 0, .int 0, .int 0, .int 0, .int 0]) (zS9 (zS9 (zS9 (zS9 (zS9 pre (zR9 cA q1 6)) (zR9 cA q2 6)) (zR9 cA q3 6)) (zR9 cA q4 6)) (zR9 cA q5 6)))) H := hP
  have hD : va_D A ((zC9 (zO9 h0 0 [.ref q1, .ref q2, .ref q3, .ref q4, .ref q5, .null, .int 0, .int 0, .int 0, .int 0, .int 0]) (zS9 (zS9 (zS9 (zS9 (zS9 pre (zR9 cA q1 6)) (zR9 cA q2 6)) (zR9 cA q3 6)) (zR9 cA q4 6)) (zR9 cA q5 6)))) := hD
  refine lv_aload_n hx hb i_X0_init_44.1 rfl (lv_at hl 0 rfl) ?_
  refine lv_bipush (v := 6) hx hb i_X0_init_45.1 (by decide +kernel) ?_
  refine va_newa (atype := .int) (ty := .int) (a0 := (6, .inl (fun _ => 0))) (N' := 6) hx hb (hts (.arrayClass .int) (zwd_3)) rfl hK hP hD hS hA (fun _ => rfl) (by decide +kernel) (by decide +kernel) (Nat.le_of_ble_eq_true rfl) (Nat.le_of_ble_eq_true rfl) (Nat.le_of_ble_eq_true rfl) i_X0_init_47.1 (fun q6 cA2 H hK2 hP hD hS => ?_)
  obtain rfl : cA = cA2 := zcA hK2
  have hP : va_P (dC, dI) vwCl ((zC9 (zO9 h0 0 [.ref q1, .ref q2, .ref q3, .ref q4, .ref q5, .null, .int 0, .int 0, .int 0, .int 0, .int 0]) (zS9 (zS9 (zS9 (zS9 (zS9 (zS9 pre (zR9 cA q1 6)) (zR9 cA q2 6)) (zR9 cA q3 6)) (zR9 cA q4 6)) (zR9 cA q5 6)) (zR9 cA q6 6)))) H := hP
  have hD : va_D A ((zC9 (zO9 h0 0 [.ref q1, .ref q2, .ref q3, .ref q4, .ref q5, .null, .int 0, .int 0, .int 0, .int 0, .int 0]) (zS9 (zS9 (zS9 (zS9 (zS9 (zS9 pre (zR9 cA q1 6)) (zR9 cA q2 6)) (zR9 cA q3 6)) (zR9 cA q4 6)) (zR9 cA q5 6)) (zR9 cA q6 6)))) := hD
  refine va_putF (D := (dC, dI)) (ci := 0) (v := .ref q6) (C := RX0) (T := TX0) (N := 11) hx hb hts zK0.2.1 tyX0 tyX0_ok nmX0 hown hK hP hD hS 0 rfl rfl 5 (by decide) (hts _ (zwd_9)) (fun _ h9 => h9) rfl hin rfl (tyX0_ok 5 (by decide)) rfl rfl (Nat.le_of_ble_eq_true rfl) i_X0_init_49.1 (fun H locs hP hD hS => ?_)
  have hP : va_P (dC, dI) vwCl ((zC9 (zO9 h0 0 [.ref q1, .ref q2, .ref q3, .ref q4, .ref q5, .ref q6, .int 0, .int 0, .int 0, .int 0, .int 0]) (zS9 (zS9 (zS9 (zS9 (zS9 (zS9 pre (zR9 cA q1 6)) (zR9 cA q2 6)) (zR9 cA q3 6)) (zR9 cA q4 6)) (zR9 cA q5 6)) (zR9 cA q6 6)))) H := hP
  have hD : va_D A ((zC9 (zO9 h0 0 [.ref q1, .ref q2, .ref q3, .ref q4, .ref q5, .ref q6, .int 0, .int 0, .int 0, .int 0, .int 0]) (zS9 (zS9 (zS9 (zS9 (zS9 (zS9 pre (zR9 cA q1 6)) (zR9 cA q2 6)) (zR9 cA q3 6)) (zR9 cA q4 6)) (zR9 cA q5 6)) (zR9 cA q6 6)))) := hD
  refine lv_aload_n hx hb i_X0_init_52.1 rfl (lv_at hl 0 rfl) ?_
  refine lv_iconst (v := 0) hx hb i_X0_init_53.1 (by decide) ?_
  refine va_put (D := (dC, dI)) (ci := 0) (v := .int 0) (C := RX0) (T := TX0) (N := 11) hx hb hts zK0.2.1 tyX0 tyX0_ok nmX0 hown hK hP hD hS 0 rfl rfl 6 (by decide) (hts _ (zwd_10)) (fun _ h9 => h9) rfl (tyX0_ok 6 (by decide)) rfl rfl (Nat.le_of_ble_eq_true rfl) i_X0_init_54.1 (fun H locs hP hD hS => ?_)
  have hP : va_P (dC, dI) vwCl ((zC9 (zO9 h0 0 [.ref q1, .ref q2, .ref q3, .ref q4, .ref q5, .ref q6, .int 0, .int 0, .int 0, .int 0, .int 0]) (zS9 (zS9 (zS9 (zS9 (zS9 (zS9 pre (zR9 cA q1 6)) (zR9 cA q2 6)) (zR9 cA q3 6)) (zR9 cA q4 6)) (zR9 cA q5 6)) (zR9 cA q6 6)))) H := hP
  have hD : va_D A ((zC9 (zO9 h0 0 [.ref q1, .ref q2, .ref q3, .ref q4, .ref q5, .ref q6, .int 0, .int 0, .int 0, .int 0, .int 0]) (zS9 (zS9 (zS9 (zS9 (zS9 (zS9 pre (zR9 cA q1 6)) (zR9 cA q2 6)) (zR9 cA q3 6)) (zR9 cA q4 6)) (zR9 cA q5 6)) (zR9 cA q6 6)))) := hD
  refine lv_aload_n hx hb i_X0_init_57.1 rfl (lv_at hl 0 rfl) ?_
  refine lv_iconst (v := 1) hx hb i_X0_init_58.1 (by decide) ?_
  refine va_put (D := (dC, dI)) (ci := 0) (v := .int 1) (C := RX0) (T := TX0) (N := 11) hx hb hts zK0.2.1 tyX0 tyX0_ok nmX0 hown hK hP hD hS 0 rfl rfl 7 (by decide) (hts _ (zwd_11)) (fun _ h9 => h9) rfl (tyX0_ok 7 (by decide)) rfl rfl (Nat.le_of_ble_eq_true rfl) i_X0_init_59.1 (fun H locs hP hD hS => ?_)
  have hP : va_P (dC, dI) vwCl ((zC9 (zO9 h0 0 [.ref q1, .ref q2, .ref q3, .ref q4, .ref q5, .ref q6, .int 0, .int 1, .int 0, .int 0, .int 0]) (zS9 (zS9 (zS9 (zS9 (zS9 (zS9 pre (zR9 cA q1 6)) (zR9 cA q2 6)) (zR9 cA q3 6)) (zR9 cA q4 6)) (zR9 cA q5 6)) (zR9 cA q6 6)))) H := hP
  have hD : va_D A ((zC9 (zO9 h0 0 [.ref q1, .ref q2, .ref q3, .ref q4, .ref q5, .ref q6, .int 0, .int 1, .int 0, .int 0, .int 0]) (zS9 (zS9 (zS9 (zS9 (zS9 (zS9 pre (zR9 cA q1 6)) (zR9 cA q2 6)) (zR9 cA q3 6)) (zR9 cA q4 6)) (zR9 cA q5 6)) (zR9 cA q6 6)))) := hD
  refine lv_aload_n hx hb i_X0_init_62.1 rfl (lv_at hl 0 rfl) ?_
  refine lv_iconst (v := 0) hx hb i_X0_init_63.1 (by decide) ?_
  refine va_put (D := (dC, dI)) (ci := 0) (v := .int 0) (C := RX0) (T := TX0) (N := 11) hx hb hts zK0.2.1 tyX0 tyX0_ok nmX0 hown hK hP hD hS 0 rfl rfl 8 (by decide) (hts _ (zwd_12)) (fun _ h9 => h9) rfl (tyX0_ok 8 (by decide)) rfl rfl (Nat.le_of_ble_eq_true rfl) i_X0_init_64.1 (fun H locs hP hD hS => ?_)
  have hP : va_P (dC, dI) vwCl ((zC9 (zO9 h0 0 [.ref q1, .ref q2, .ref q3, .ref q4, .ref q5, .ref q6, .int 0, .int 1, .int 0, .int 0, .int 0]) (zS9 (zS9 (zS9 (zS9 (zS9 (zS9 pre (zR9 cA q1 6)) (zR9 cA q2 6)) (zR9 cA q3 6)) (zR9 cA q4 6)) (zR9 cA q5 6)) (zR9 cA q6 6)))) H := hP
  have hD : va_D A ((zC9 (zO9 h0 0 [.ref q1, .ref q2, .ref q3, .ref q4, .ref q5, .ref q6, .int 0, .int 1, .int 0, .int 0, .int 0]) (zS9 (zS9 (zS9 (zS9 (zS9 (zS9 pre (zR9 cA q1 6)) (zR9 cA q2 6)) (zR9 cA q3 6)) (zR9 cA q4 6)) (zR9 cA q5 6)) (zR9 cA q6 6)))) := hD
  refine lv_aload_n hx hb i_X0_init_67.1 rfl (lv_at hl 0 rfl) ?_
  refine lv_iconst (v := 0) hx hb i_X0_init_68.1 (by decide) ?_
  refine va_put (D := (dC, dI)) (ci := 0) (v := .int 0) (C := RX0) (T := TX0) (N := 11) hx hb hts zK0.2.1 tyX0 tyX0_ok nmX0 hown hK hP hD hS 0 rfl rfl 9 (by decide) (hts _ (zwd_13)) (fun _ h9 => h9) rfl (tyX0_ok 9 (by decide)) rfl rfl (Nat.le_of_ble_eq_true rfl) i_X0_init_69.1 (fun H locs hP hD hS => ?_)
  have hP : va_P (dC, dI) vwCl ((zC9 (zO9 h0 0 [.ref q1, .ref q2, .ref q3, .ref q4, .ref q5, .ref q6, .int 0, .int 1, .int 0, .int 0, .int 0]) (zS9 (zS9 (zS9 (zS9 (zS9 (zS9 pre (zR9 cA q1 6)) (zR9 cA q2 6)) (zR9 cA q3 6)) (zR9 cA q4 6)) (zR9 cA q5 6)) (zR9 cA q6 6)))) H := hP
  have hD : va_D A ((zC9 (zO9 h0 0 [.ref q1, .ref q2, .ref q3, .ref q4, .ref q5, .ref q6, .int 0, .int 1, .int 0, .int 0, .int 0]) (zS9 (zS9 (zS9 (zS9 (zS9 (zS9 pre (zR9 cA q1 6)) (zR9 cA q2 6)) (zR9 cA q3 6)) (zR9 cA q4 6)) (zR9 cA q5 6)) (zR9 cA q6 6)))) := hD
  refine lv_aload_n hx hb i_X0_init_72.1 rfl (lv_at hl 0 rfl) ?_
  refine lv_iconst (v := 0) hx hb i_X0_init_73.1 (by decide) ?_
  refine va_put (D := (dC, dI)) (ci := 0) (v := .int 0) (C := RX0) (T := TX0) (N := 11) hx hb hts zK0.2.1 tyX0 tyX0_ok nmX0 hown hK hP hD hS 0 rfl rfl 10 (by decide) (hts _ (zwd_14)) (fun _ h9 => h9) rfl (tyX0_ok 10 (by decide)) rfl rfl (Nat.le_of_ble_eq_true rfl) i_X0_init_74.1 (fun H locs hP hD hS => ?_)
  have hP : va_P (dC, dI) vwCl ((zC9 (zO9 h0 0 [.ref q1, .ref q2, .ref q3, .ref q4, .ref q5, .ref q6, .int 0, .int 1, .int 0, .int 0, .int 0]) (zS9 (zS9 (zS9 (zS9 (zS9 (zS9 pre (zR9 cA q1 6)) (zR9 cA q2 6)) (zR9 cA q3 6)) (zR9 cA q4 6)) (zR9 cA q5 6)) (zR9 cA q6 6)))) H := hP
  have hD : va_D A ((zC9 (zO9 h0 0 [.ref q1, .ref q2, .ref q3, .ref q4, .ref q5, .ref q6, .int 0, .int 1, .int 0, .int 0, .int 0]) (zS9 (zS9 (zS9 (zS9 (zS9 (zS9 pre (zR9 cA q1 6)) (zR9 cA q2 6)) (zR9 cA q3 6)) (zR9 cA q4 6)) (zR9 cA q5 6)) (zR9 cA q6 6)))) := hD
  exact W.vret hx hb hr (fun t ht hW => ⟨⟨(fun i => ([q1, q2, q3, q4, q5, q6] : List Nat).getD i 0), rfl, trivial, by rw [ht]; exact hP, va_K.moved hW.alike hK, hD⟩, hS.F ht⟩) hS.2.2 i_X0_init_77.1 hlocks
set_option maxHeartbeats 4000000 in
set_option maxRecDepth 100000 in
theorem c_X6_init96 (dC : Nat → ClassId) (dI : Nat → Nat → Nat) (cA : ClassId) (pre : va_W) (h0 : Nat) : zNt kX6_init 1 1 96 (dC, dI) cA [.ref h0, .int 96] ((zC9 (zO9 h0 4 [.null, .int 0]) pre)) (fun u => (zC9 (zO9 h0 4 [.ref (u 0), .int 0]) (zS9 pre (zR9 cA (u 0) 96)))) := by
  intro l sz
  refine Met.ofW (cc := kX6_init.2.1) (maxL := 2) (ret := none) (ws' := zt) (by decide) rfl ?_
  intro p e s m args below meth c s₁ B hml hv
  obtain ⟨rfl, hsz, hP, hK, hD0, hnw⟩ := hv
  have hx := B.exec
  have hb : c.code = kX6_init.2.1 := B.bytes
  have hr := B.returns
  have hts0 := atoms_spec (ws := zw kX6_init) B.pre
  have hts : ∀ w ∈ zt, w.before _ s = true := fun w hw => hts0 w (List.mem_cons_of_mem _ hw)
  have hown : s.vm.findClass RX6 = some m.cls := findClass_of_methodNamed B.named
  have hlocks := B.notSynchronized
  have hin : meth.name = "<init>" := (name_of_methodNamed B.named B.method).1
  subst hsz
  have hD := hD0.self (sz := s.heap.size)
  generalize hAe : va_A ((zC9 (zO9 h0 4 [.null, .int 0]) pre)) s.heap.size = A at hD ⊢
  have hA : ∀ q : Nat, s.heap.size ≤ q → A q := fun q h => by rw [← hAe]; exact Or.inr h
  have hS : va_S A s.heap s.heap [] := va_S.rf
  have hl := lv_entry ([.ref h0, .int 96]) (n := 2) (Nat.le_of_ble_eq_true rfl)
  rw [lg_entry_eq]
  generalize (lg_sl ([.ref h0, .int 96]) ++ List.replicate (2 - (lg_sl ([.ref h0, .int 96])).length) Slot.unset).toArray = ls at hl ⊢
  have hl : lv_has ls 2 [(0, .ref h0), (1, .int 96)] := hl
  refine lv_aload_n hx hb i_X6_init_0.1 rfl (lv_at hl 0 rfl) ?_
  refine W.objInit hx hb hown (hts (.methodLink RX6 1 objectInit) (zwd_15)) (hts (.instanceMethod objectInit) (zwd_1)) (hts _ (zwd_2)) rfl (by rw [hml]; exact hl.1) rfl i_X6_init_1.1 (Nat.le_of_ble_eq_true rfl) (Nat.le_of_ble_eq_true rfl) ?_
  refine W.eq (g2 := F0 m 4 ls []) rfl ?_
  refine lv_aload_n hx hb i_X6_init_4.1 rfl (lv_at hl 0 rfl) ?_
  refine lv_iconst (v := 0) hx hb i_X6_init_5.1 (by decide) ?_
  refine va_put (D := (dC, dI)) (ci := 4) (v := .int 0) (C := RX6) (T := TX6) (N := 2) hx hb hts zK4.2.1 tyX6 tyX6_ok nmX6 hown hK hP hD hS 0 rfl rfl 1 (by decide) (hts _ (zwd_16)) (fun _ h9 => h9) rfl (tyX6_ok 1 (by decide)) rfl rfl (Nat.le_of_ble_eq_true rfl) i_X6_init_6.1 (fun H locs hP hD hS => ?_)
  have hP : va_P (dC, dI) vwCl ((zC9 (zO9 h0 4 [.null, .int 0]) pre)) H := hP
  have hD : va_D A ((zC9 (zO9 h0 4 [.null, .int 0]) pre)) := hD
  refine lv_aload_n hx hb i_X6_init_9.1 rfl (lv_at hl 0 rfl) ?_
  refine lv_iload_n hx hb i_X6_init_10.1 rfl (lv_at hl 1 rfl) ?_
  refine lv_iconst (v := 0) hx hb i_X6_init_11.1 (by decide) ?_
  refine va_mmax hx hb (hml.trans hl.1.symm) hown (hts _ lm_X6_13) (hts _ m_J9_max_7cf53.2) (hts _ m_J9_max_7cf53.1.2.1) (hts _ m_J9_max_7cf53.1.1) (Nat.le_of_ble_eq_true rfl) (Nat.le_of_ble_eq_true rfl) (Nat.le_of_ble_eq_true rfl) (Nat.le_of_ble_eq_true rfl) i_X6_init_12.1 ?_
  rw [show (if (96 : Int32) < 0 then (0 : Int32) else 96) = 96 by decide]
  refine va_newa (atype := .int) (ty := .int) (a0 := (96, .inl (fun _ => 0))) (N' := 96) hx hb (hts (.arrayClass .int) (zwd_3)) rfl hK hP hD hS hA (fun _ => rfl) (by decide +kernel) (by decide +kernel) (Nat.le_of_ble_eq_true rfl) (Nat.le_of_ble_eq_true rfl) (Nat.le_of_ble_eq_true rfl) i_X6_init_15.1 (fun q1 cA2 H hK2 hP hD hS => ?_)
  obtain rfl : cA = cA2 := zcA hK2
  have hP : va_P (dC, dI) vwCl ((zC9 (zO9 h0 4 [.null, .int 0]) (zS9 pre (zR9 cA q1 96)))) H := hP
  have hD : va_D A ((zC9 (zO9 h0 4 [.null, .int 0]) (zS9 pre (zR9 cA q1 96)))) := hD
  refine va_putF (D := (dC, dI)) (ci := 4) (v := .ref q1) (C := RX6) (T := TX6) (N := 2) hx hb hts zK4.2.1 tyX6 tyX6_ok nmX6 hown hK hP hD hS 0 rfl rfl 0 (by decide) (hts _ (zwd_17)) (fun _ h9 => h9) rfl hin rfl (tyX6_ok 0 (by decide)) rfl rfl (Nat.le_of_ble_eq_true rfl) i_X6_init_17.1 (fun H locs hP hD hS => ?_)
  have hP : va_P (dC, dI) vwCl ((zC9 (zO9 h0 4 [.ref q1, .int 0]) (zS9 pre (zR9 cA q1 96)))) H := hP
  have hD : va_D A ((zC9 (zO9 h0 4 [.ref q1, .int 0]) (zS9 pre (zR9 cA q1 96)))) := hD
  exact W.vret hx hb hr (fun t ht hW => ⟨⟨(fun i => ([q1] : List Nat).getD i 0), rfl, trivial, by rw [ht]; exact hP, va_K.moved hW.alike hK, hD⟩, hS.F ht⟩) hS.2.2 i_X6_init_20.1 hlocks
set_option maxHeartbeats 4000000 in
set_option maxRecDepth 100000 in
theorem c_X6_init12 (dC : Nat → ClassId) (dI : Nat → Nat → Nat) (cA : ClassId) (pre : va_W) (h0 : Nat) : zNt kX6_init 1 1 12 (dC, dI) cA [.ref h0, .int 12] ((zC9 (zO9 h0 4 [.null, .int 0]) pre)) (fun u => (zC9 (zO9 h0 4 [.ref (u 0), .int 0]) (zS9 pre (zR9 cA (u 0) 12)))) := by
  intro l sz
  refine Met.ofW (cc := kX6_init.2.1) (maxL := 2) (ret := none) (ws' := zt) (by decide) rfl ?_
  intro p e s m args below meth c s₁ B hml hv
  obtain ⟨rfl, hsz, hP, hK, hD0, hnw⟩ := hv
  have hx := B.exec
  have hb : c.code = kX6_init.2.1 := B.bytes
  have hr := B.returns
  have hts0 := atoms_spec (ws := zw kX6_init) B.pre
  have hts : ∀ w ∈ zt, w.before _ s = true := fun w hw => hts0 w (List.mem_cons_of_mem _ hw)
  have hown : s.vm.findClass RX6 = some m.cls := findClass_of_methodNamed B.named
  have hlocks := B.notSynchronized
  have hin : meth.name = "<init>" := (name_of_methodNamed B.named B.method).1
  subst hsz
  have hD := hD0.self (sz := s.heap.size)
  generalize hAe : va_A ((zC9 (zO9 h0 4 [.null, .int 0]) pre)) s.heap.size = A at hD ⊢
  have hA : ∀ q : Nat, s.heap.size ≤ q → A q := fun q h => by rw [← hAe]; exact Or.inr h
  have hS : va_S A s.heap s.heap [] := va_S.rf
  have hl := lv_entry ([.ref h0, .int 12]) (n := 2) (Nat.le_of_ble_eq_true rfl)
  rw [lg_entry_eq]
  generalize (lg_sl ([.ref h0, .int 12]) ++ List.replicate (2 - (lg_sl ([.ref h0, .int 12])).length) Slot.unset).toArray = ls at hl ⊢
  have hl : lv_has ls 2 [(0, .ref h0), (1, .int 12)] := hl
  refine lv_aload_n hx hb i_X6_init_0.1 rfl (lv_at hl 0 rfl) ?_
  refine W.objInit hx hb hown (hts (.methodLink RX6 1 objectInit) (zwd_15)) (hts (.instanceMethod objectInit) (zwd_1)) (hts _ (zwd_2)) rfl (by rw [hml]; exact hl.1) rfl i_X6_init_1.1 (Nat.le_of_ble_eq_true rfl) (Nat.le_of_ble_eq_true rfl) ?_
  refine W.eq (g2 := F0 m 4 ls []) rfl ?_
  refine lv_aload_n hx hb i_X6_init_4.1 rfl (lv_at hl 0 rfl) ?_
  refine lv_iconst (v := 0) hx hb i_X6_init_5.1 (by decide) ?_
  refine va_put (D := (dC, dI)) (ci := 4) (v := .int 0) (C := RX6) (T := TX6) (N := 2) hx hb hts zK4.2.1 tyX6 tyX6_ok nmX6 hown hK hP hD hS 0 rfl rfl 1 (by decide) (hts _ (zwd_16)) (fun _ h9 => h9) rfl (tyX6_ok 1 (by decide)) rfl rfl (Nat.le_of_ble_eq_true rfl) i_X6_init_6.1 (fun H locs hP hD hS => ?_)
  have hP : va_P (dC, dI) vwCl ((zC9 (zO9 h0 4 [.null, .int 0]) pre)) H := hP
  have hD : va_D A ((zC9 (zO9 h0 4 [.null, .int 0]) pre)) := hD
  refine lv_aload_n hx hb i_X6_init_9.1 rfl (lv_at hl 0 rfl) ?_
  refine lv_iload_n hx hb i_X6_init_10.1 rfl (lv_at hl 1 rfl) ?_
  refine lv_iconst (v := 0) hx hb i_X6_init_11.1 (by decide) ?_
  refine va_mmax hx hb (hml.trans hl.1.symm) hown (hts _ lm_X6_13) (hts _ m_J9_max_7cf53.2) (hts _ m_J9_max_7cf53.1.2.1) (hts _ m_J9_max_7cf53.1.1) (Nat.le_of_ble_eq_true rfl) (Nat.le_of_ble_eq_true rfl) (Nat.le_of_ble_eq_true rfl) (Nat.le_of_ble_eq_true rfl) i_X6_init_12.1 ?_
  rw [show (if (12 : Int32) < 0 then (0 : Int32) else 12) = 12 by decide]
  refine va_newa (atype := .int) (ty := .int) (a0 := (12, .inl (fun _ => 0))) (N' := 12) hx hb (hts (.arrayClass .int) (zwd_3)) rfl hK hP hD hS hA (fun _ => rfl) (by decide +kernel) (by decide +kernel) (Nat.le_of_ble_eq_true rfl) (Nat.le_of_ble_eq_true rfl) (Nat.le_of_ble_eq_true rfl) i_X6_init_15.1 (fun q1 cA2 H hK2 hP hD hS => ?_)
  obtain rfl : cA = cA2 := zcA hK2
  have hP : va_P (dC, dI) vwCl ((zC9 (zO9 h0 4 [.null, .int 0]) (zS9 pre (zR9 cA q1 12)))) H := hP
  have hD : va_D A ((zC9 (zO9 h0 4 [.null, .int 0]) (zS9 pre (zR9 cA q1 12)))) := hD
  refine va_putF (D := (dC, dI)) (ci := 4) (v := .ref q1) (C := RX6) (T := TX6) (N := 2) hx hb hts zK4.2.1 tyX6 tyX6_ok nmX6 hown hK hP hD hS 0 rfl rfl 0 (by decide) (hts _ (zwd_17)) (fun _ h9 => h9) rfl hin rfl (tyX6_ok 0 (by decide)) rfl rfl (Nat.le_of_ble_eq_true rfl) i_X6_init_17.1 (fun H locs hP hD hS => ?_)
  have hP : va_P (dC, dI) vwCl ((zC9 (zO9 h0 4 [.ref q1, .int 0]) (zS9 pre (zR9 cA q1 12)))) H := hP
  have hD : va_D A ((zC9 (zO9 h0 4 [.ref q1, .int 0]) (zS9 pre (zR9 cA q1 12)))) := hD
  exact W.vret hx hb hr (fun t ht hW => ⟨⟨(fun i => ([q1] : List Nat).getD i 0), rfl, trivial, by rw [ht]; exact hP, va_K.moved hW.alike hK, hD⟩, hS.F ht⟩) hS.2.2 i_X6_init_20.1 hlocks
set_option maxHeartbeats 4000000 in
set_option maxRecDepth 100000 in
theorem c_X1_init (dC : Nat → ClassId) (dI : Nat → Nat → Nat) (cA : ClassId) (pre : va_W) (h0 : Nat) : zNt kX1_init 1 5 40 (dC, dI) cA [.ref h0] ((zC9 (zO9 h0 1 [.null, .null, .null, .null, .null, .int 0, .int 0]) pre)) (fun u => (zC9 (zO9 h0 1 [.ref (u 0), .ref (u 1), .ref (u 2), .ref (u 3), .ref (u 4), .int 0, .int 0]) (zS9 (zS9 (zS9 (zS9 (zS9 pre (zR9 cA (u 0) 8)) (zR9 cA (u 1) 8)) (zR9 cA (u 2) 8)) (zR9 cA (u 3) 8)) (zR9 cA (u 4) 8)))) := by
  intro l sz
  refine Met.ofW (cc := kX1_init.2.1) (maxL := 1) (ret := none) (ws' := zt) (by decide) rfl ?_
  intro p e s m args below meth c s₁ B hml hv
  obtain ⟨rfl, hsz, hP, hK, hD0, hnw⟩ := hv
  have hx := B.exec
  have hb : c.code = kX1_init.2.1 := B.bytes
  have hr := B.returns
  have hts0 := atoms_spec (ws := zw kX1_init) B.pre
  have hts : ∀ w ∈ zt, w.before _ s = true := fun w hw => hts0 w (List.mem_cons_of_mem _ hw)
  have hown : s.vm.findClass RX1 = some m.cls := findClass_of_methodNamed B.named
  have hlocks := B.notSynchronized
  have hin : meth.name = "<init>" := (name_of_methodNamed B.named B.method).1
  subst hsz
  have hD := hD0.self (sz := s.heap.size)
  generalize hAe : va_A ((zC9 (zO9 h0 1 [.null, .null, .null, .null, .null, .int 0, .int 0]) pre)) s.heap.size = A at hD ⊢
  have hA : ∀ q : Nat, s.heap.size ≤ q → A q := fun q h => by rw [← hAe]; exact Or.inr h
  have hS : va_S A s.heap s.heap [] := va_S.rf
  have hl := lv_entry ([.ref h0]) (n := 1) (Nat.le_of_ble_eq_true rfl)
  rw [lg_entry_eq]
  generalize (lg_sl ([.ref h0]) ++ List.replicate (1 - (lg_sl ([.ref h0])).length) Slot.unset).toArray = ls at hl ⊢
  have hl : lv_has ls 1 [(0, .ref h0)] := hl
  refine lv_aload_n hx hb i_X1_init_0.1 rfl (lv_at hl 0 rfl) ?_
  refine W.objInit hx hb hown (hts (.methodLink RX1 3 objectInit) (zwd_18)) (hts (.instanceMethod objectInit) (zwd_1)) (hts _ (zwd_2)) rfl (by rw [hml]; exact hl.1) rfl i_X1_init_1.1 (Nat.le_of_ble_eq_true rfl) (Nat.le_of_ble_eq_true rfl) ?_
  refine W.eq (g2 := F0 m 4 ls []) rfl ?_
  refine lv_aload_n hx hb i_X1_init_4.1 rfl (lv_at hl 0 rfl) ?_
  refine lv_bipush (v := 8) hx hb i_X1_init_5.1 (by decide +kernel) ?_
  refine va_newa (atype := .int) (ty := .int) (a0 := (8, .inl (fun _ => 0))) (N' := 8) hx hb (hts (.arrayClass .int) (zwd_3)) rfl hK hP hD hS hA (fun _ => rfl) (by decide +kernel) (by decide +kernel) (Nat.le_of_ble_eq_true rfl) (Nat.le_of_ble_eq_true rfl) (Nat.le_of_ble_eq_true rfl) i_X1_init_7.1 (fun q1 cA2 H hK2 hP hD hS => ?_)
  obtain rfl : cA = cA2 := zcA hK2
  have hP : va_P (dC, dI) vwCl ((zC9 (zO9 h0 1 [.null, .null, .null, .null, .null, .int 0, .int 0]) (zS9 pre (zR9 cA q1 8)))) H := hP
  have hD : va_D A ((zC9 (zO9 h0 1 [.null, .null, .null, .null, .null, .int 0, .int 0]) (zS9 pre (zR9 cA q1 8)))) := hD
  refine va_putF (D := (dC, dI)) (ci := 1) (v := .ref q1) (C := RX1) (T := TX1) (N := 7) hx hb hts zK1.2.1 tyX1 tyX1_ok nmX1 hown hK hP hD hS 0 rfl rfl 0 (by decide) (hts _ (zwd_19)) (fun _ h9 => h9) rfl hin rfl (tyX1_ok 0 (by decide)) rfl rfl (Nat.le_of_ble_eq_true rfl) i_X1_init_9.1 (fun H locs hP hD hS => ?_)
  have hP : va_P (dC, dI) vwCl ((zC9 (zO9 h0 1 [.ref q1, .null, .null, .null, .null, .int 0, .int 0]) (zS9 pre (zR9 cA q1 8)))) H := hP
  have hD : va_D A ((zC9 (zO9 h0 1 [.ref q1, .null, .null, .null, .null, .int 0, .int 0]) (zS9 pre (zR9 cA q1 8)))) := hD
  refine lv_aload_n hx hb i_X1_init_12.1 rfl (lv_at hl 0 rfl) ?_
  refine lv_bipush (v := 8) hx hb i_X1_init_13.1 (by decide +kernel) ?_
  refine va_newa (atype := .int) (ty := .int) (a0 := (8, .inl (fun _ => 0))) (N' := 8) hx hb (hts (.arrayClass .int) (zwd_3)) rfl hK hP hD hS hA (fun _ => rfl) (by decide +kernel) (by decide +kernel) (Nat.le_of_ble_eq_true rfl) (Nat.le_of_ble_eq_true rfl) (Nat.le_of_ble_eq_true rfl) i_X1_init_15.1 (fun q2 cA2 H hK2 hP hD hS => ?_)
  obtain rfl : cA = cA2 := zcA hK2
  have hP : va_P (dC, dI) vwCl ((zC9 (zO9 h0 1 [.ref q1, .null, .null, .null, .null, .int 0, .int 0]) (zS9 (zS9 pre (zR9 cA q1 8)) (zR9 cA q2 8)))) H := hP
  have hD : va_D A ((zC9 (zO9 h0 1 [.ref q1, .null, .null, .null, .null, .int 0, .int 0]) (zS9 (zS9 pre (zR9 cA q1 8)) (zR9 cA q2 8)))) := hD
  refine va_putF (D := (dC, dI)) (ci := 1) (v := .ref q2) (C := RX1) (T := TX1) (N := 7) hx hb hts zK1.2.1 tyX1 tyX1_ok nmX1 hown hK hP hD hS 0 rfl rfl 1 (by decide) (hts _ (zwd_20)) (fun _ h9 => h9) rfl hin rfl (tyX1_ok 1 (by decide)) rfl rfl (Nat.le_of_ble_eq_true rfl) i_X1_init_17.1 (fun H locs hP hD hS => ?_)
  have hP : va_P (dC, dI) vwCl ((zC9 (zO9 h0 1 [.ref q1, .ref q2, .null, .null, .null, .int 0, .int 0]) (zS9 (zS9 pre (zR9 cA q1 8)) (zR9 cA q2 8)))) H := hP
  have hD : va_D A ((zC9 (zO9 h0 1 [.ref q1, .ref q2, .null, .null, .null, .int 0, .int 0]) (zS9 (zS9 pre (zR9 cA q1 8)) (zR9 cA q2 8)))) := hD
  refine lv_aload_n hx hb i_X1_init_20.1 rfl (lv_at hl 0 rfl) ?_
  refine lv_bipush (v := 8) hx hb i_X1_init_21.1 (by decide +kernel) ?_
  refine va_newa (atype := .int) (ty := .int) (a0 := (8, .inl (fun _ => 0))) (N' := 8) hx hb (hts (.arrayClass .int) (zwd_3)) rfl hK hP hD hS hA (fun _ => rfl) (by decide +kernel) (by decide +kernel) (Nat.le_of_ble_eq_true rfl) (Nat.le_of_ble_eq_true rfl) (Nat.le_of_ble_eq_true rfl) i_X1_init_23.1 (fun q3 cA2 H hK2 hP hD hS => ?_)
  obtain rfl : cA = cA2 := zcA hK2
  have hP : va_P (dC, dI) vwCl ((zC9 (zO9 h0 1 [.ref q1, .ref q2, .null, .null, .null, .int 0, .int 0]) (zS9 (zS9 (zS9 pre (zR9 cA q1 8)) (zR9 cA q2 8)) (zR9 cA q3 8)))) H := hP
  have hD : va_D A ((zC9 (zO9 h0 1 [.ref q1, .ref q2, .null, .null, .null, .int 0, .int 0]) (zS9 (zS9 (zS9 pre (zR9 cA q1 8)) (zR9 cA q2 8)) (zR9 cA q3 8)))) := hD
  refine va_putF (D := (dC, dI)) (ci := 1) (v := .ref q3) (C := RX1) (T := TX1) (N := 7) hx hb hts zK1.2.1 tyX1 tyX1_ok nmX1 hown hK hP hD hS 0 rfl rfl 2 (by decide) (hts _ (zwd_21)) (fun _ h9 => h9) rfl hin rfl (tyX1_ok 2 (by decide)) rfl rfl (Nat.le_of_ble_eq_true rfl) i_X1_init_25.1 (fun H locs hP hD hS => ?_)
  have hP : va_P (dC, dI) vwCl ((zC9 (zO9 h0 1 [.ref q1, .ref q2, .ref q3, .null, .null, .int 0, .int 0]) (zS9 (zS9 (zS9 pre (zR9 cA q1 8)) (zR9 cA q2 8)) (zR9 cA q3 8)))) H := hP
  have hD : va_D A ((zC9 (zO9 h0 1 [.ref q1, .ref q2, .ref q3, .null, .null, .int 0, .int 0]) (zS9 (zS9 (zS9 pre (zR9 cA q1 8)) (zR9 cA q2 8)) (zR9 cA q3 8)))) := hD
  refine lv_aload_n hx hb i_X1_init_28.1 rfl (lv_at hl 0 rfl) ?_
  refine lv_bipush (v := 8) hx hb i_X1_init_29.1 (by decide +kernel) ?_
  refine va_newa (atype := .int) (ty := .int) (a0 := (8, .inl (fun _ => 0))) (N' := 8) hx hb (hts (.arrayClass .int) (zwd_3)) rfl hK hP hD hS hA (fun _ => rfl) (by decide +kernel) (by decide +kernel) (Nat.le_of_ble_eq_true rfl) (Nat.le_of_ble_eq_true rfl) (Nat.le_of_ble_eq_true rfl) i_X1_init_31.1 (fun q4 cA2 H hK2 hP hD hS => ?_)
  obtain rfl : cA = cA2 := zcA hK2
  have hP : va_P (dC, dI) vwCl ((zC9 (zO9 h0 1 [.ref q1, .ref q2, .ref q3, .null, .null, .int 0, .int 0]) (zS9 (zS9 (zS9 (zS9 pre (zR9 cA q1 8)) (zR9 cA q2 8)) (zR9 cA q3 8)) (zR9 cA q4 8)))) H := hP
  have hD : va_D A ((zC9 (zO9 h0 1 [.ref q1, .ref q2, .ref q3, .null, .null, .int 0, .int 0]) (zS9 (zS9 (zS9 (zS9 pre (zR9 cA q1 8)) (zR9 cA q2 8)) (zR9 cA q3 8)) (zR9 cA q4 8)))) := hD
  refine va_putF (D := (dC, dI)) (ci := 1) (v := .ref q4) (C := RX1) (T := TX1) (N := 7) hx hb hts zK1.2.1 tyX1 tyX1_ok nmX1 hown hK hP hD hS 0 rfl rfl 3 (by decide) (hts _ (zwd_22)) (fun _ h9 => h9) rfl hin rfl (tyX1_ok 3 (by decide)) rfl rfl (Nat.le_of_ble_eq_true rfl) i_X1_init_33.1 (fun H locs hP hD hS => ?_)
  have hP : va_P (dC, dI) vwCl ((zC9 (zO9 h0 1 [.ref q1, .ref q2, .ref q3, .ref q4, .null, .int 0, .int 0]) (zS9 (zS9 (zS9 (zS9 pre (zR9 cA q1 8)) (zR9 cA q2 8)) (zR9 cA q3 8)) (zR9 cA q4 8)))) H := hP
  have hD : va_D A ((zC9 (zO9 h0 1 [.ref q1, .ref q2, .ref q3, .ref q4, .null, .int 0, .int 0]) (zS9 (zS9 (zS9 (zS9 pre (zR9 cA q1 8)) (zR9 cA q2 8)) (zR9 cA q3 8)) (zR9 cA q4 8)))) := hD
  refine lv_aload_n hx hb i_X1_init_36.1 rfl (lv_at hl 0 rfl) ?_
  refine lv_bipush (v := 8) hx hb i_X1_init_37.1 (by decide +kernel) ?_
  refine va_newa (atype := .int) (ty := .int) (a0 := (8, .inl (fun _ => 0))) (N' := 8) hx hb (hts (.arrayClass .int) (zwd_3)) rfl hK hP hD hS hA (fun _ => rfl) (by decide +kernel) (by decide +kernel) (Nat.le_of_ble_eq_true rfl) (Nat.le_of_ble_eq_true rfl) (Nat.le_of_ble_eq_true rfl) i_X1_init_39.1 (fun q5 cA2 H hK2 hP hD hS => ?_)
  obtain rfl : cA = cA2 := zcA hK2
  have hP : va_P (dC, dI) vwCl ((zC9 (zO9 h0 1 [.ref q1, .ref q2, .ref q3, .ref q4, .null, .int 0, .int 0]) (zS9 (zS9 (zS9 (zS9 (zS9 pre (zR9 cA q1 8)) (zR9 cA q2 8)) (zR9 cA q3 8)) (zR9 cA q4 8)) (zR9 cA q5 8)))) H := hP
  have hD : va_D A ((zC9 (zO9 h0 1 [.ref q1, .ref q2, .ref q3, .ref q4, .null, .int 0, .int 0]) (zS9 (zS9 (zS9 (zS9 (zS9 pre (zR9 cA q1 8)) (zR9 cA q2 8)) (zR9 cA q3 8)) (zR9 cA q4 8)) (zR9 cA q5 8)))) := hD
  refine va_putF (D := (dC, dI)) (ci := 1) (v := .ref q5) (C := RX1) (T := TX1) (N := 7) hx hb hts zK1.2.1 tyX1 tyX1_ok nmX1 hown hK hP hD hS 0 rfl rfl 4 (by decide) (hts _ (zwd_23)) (fun _ h9 => h9) rfl hin rfl (tyX1_ok 4 (by decide)) rfl rfl (Nat.le_of_ble_eq_true rfl) i_X1_init_41.1 (fun H locs hP hD hS => ?_)
  have hP : va_P (dC, dI) vwCl ((zC9 (zO9 h0 1 [.ref q1, .ref q2, .ref q3, .ref q4, .ref q5, .int 0, .int 0]) (zS9 (zS9 (zS9 (zS9 (zS9 pre (zR9 cA q1 8)) (zR9 cA q2 8)) (zR9 cA q3 8)) (zR9 cA q4 8)) (zR9 cA q5 8)))) H := hP
  have hD : va_D A ((zC9 (zO9 h0 1 [.ref q1, .ref q2, .ref q3, .ref q4, .ref q5, .int 0, .int 0]) (zS9 (zS9 (zS9 (zS9 (zS9 pre (zR9 cA q1 8)) (zR9 cA q2 8)) (zR9 cA q3 8)) (zR9 cA q4 8)) (zR9 cA q5 8)))) := hD
  refine lv_aload_n hx hb i_X1_init_44.1 rfl (lv_at hl 0 rfl) ?_
  refine lv_iconst (v := 0) hx hb i_X1_init_45.1 (by decide) ?_
  refine va_put (D := (dC, dI)) (ci := 1) (v := .int 0) (C := RX1) (T := TX1) (N := 7) hx hb hts zK1.2.1 tyX1 tyX1_ok nmX1 hown hK hP hD hS 0 rfl rfl 5 (by decide) (hts _ (zwd_24)) (fun _ h9 => h9) rfl (tyX1_ok 5 (by decide)) rfl rfl (Nat.le_of_ble_eq_true rfl) i_X1_init_46.1 (fun H locs hP hD hS => ?_)
  have hP : va_P (dC, dI) vwCl ((zC9 (zO9 h0 1 [.ref q1, .ref q2, .ref q3, .ref q4, .ref q5, .int 0, .int 0]) (zS9 (zS9 (zS9 (zS9 (zS9 pre (zR9 cA q1 8)) (zR9 cA q2 8)) (zR9 cA q3 8)) (zR9 cA q4 8)) (zR9 cA q5 8)))) H := hP
  have hD : va_D A ((zC9 (zO9 h0 1 [.ref q1, .ref q2, .ref q3, .ref q4, .ref q5, .int 0, .int 0]) (zS9 (zS9 (zS9 (zS9 (zS9 pre (zR9 cA q1 8)) (zR9 cA q2 8)) (zR9 cA q3 8)) (zR9 cA q4 8)) (zR9 cA q5 8)))) := hD
  refine lv_aload_n hx hb i_X1_init_49.1 rfl (lv_at hl 0 rfl) ?_
  refine lv_iconst (v := 0) hx hb i_X1_init_50.1 (by decide) ?_
  refine va_put (D := (dC, dI)) (ci := 1) (v := .int 0) (C := RX1) (T := TX1) (N := 7) hx hb hts zK1.2.1 tyX1 tyX1_ok nmX1 hown hK hP hD hS 0 rfl rfl 6 (by decide) (hts _ (zwd_25)) (fun _ h9 => h9) rfl (tyX1_ok 6 (by decide)) rfl rfl (Nat.le_of_ble_eq_true rfl) i_X1_init_51.1 (fun H locs hP hD hS => ?_)
  have hP : va_P (dC, dI) vwCl ((zC9 (zO9 h0 1 [.ref q1, .ref q2, .ref q3, .ref q4, .ref q5, .int 0, .int 0]) (zS9 (zS9 (zS9 (zS9 (zS9 pre (zR9 cA q1 8)) (zR9 cA q2 8)) (zR9 cA q3 8)) (zR9 cA q4 8)) (zR9 cA q5 8)))) H := hP
  have hD : va_D A ((zC9 (zO9 h0 1 [.ref q1, .ref q2, .ref q3, .ref q4, .ref q5, .int 0, .int 0]) (zS9 (zS9 (zS9 (zS9 (zS9 pre (zR9 cA q1 8)) (zR9 cA q2 8)) (zR9 cA q3 8)) (zR9 cA q4 8)) (zR9 cA q5 8)))) := hD
  exact W.vret hx hb hr (fun t ht hW => ⟨⟨(fun i => ([q1, q2, q3, q4, q5] : List Nat).getD i 0), rfl, trivial, by rw [ht]; exact hP, va_K.moved hW.alike hK, hD⟩, hS.F ht⟩) hS.2.2 i_X1_init_54.1 hlocks
set_option maxHeartbeats 4000000 in
set_option maxRecDepth 100000 in
theorem c_X7_init (dC : Nat → ClassId) (dI : Nat → Nat → Nat) (cA : ClassId) (pre : va_W) (h0 h1 h2 : Nat) : zNt kX7_init 1 0 0 (dC, dI) cA [.ref h0, .ref h1, .ref h2] ((zC9 (zO9 h0 5 [.null, .null]) pre)) (fun u => (zC9 (zO9 h0 5 [.ref h1, .ref h2]) pre)) := by
  intro l sz
  refine Met.ofW (cc := kX7_init.2.1) (maxL := 3) (ret := none) (ws' := zt) (by decide) rfl ?_
  intro p e s m args below meth c s₁ B hml hv
  obtain ⟨rfl, hsz, hP, hK, hD0, hnw⟩ := hv
  have hx := B.exec
  have hb : c.code = kX7_init.2.1 := B.bytes
  have hr := B.returns
  have hts0 := atoms_spec (ws := zw kX7_init) B.pre
  have hts : ∀ w ∈ zt, w.before _ s = true := fun w hw => hts0 w (List.mem_cons_of_mem _ hw)
  have hown : s.vm.findClass RX7 = some m.cls := findClass_of_methodNamed B.named
  have hlocks := B.notSynchronized
  have hin : meth.name = "<init>" := (name_of_methodNamed B.named B.method).1
  subst hsz
  have hD := hD0.self (sz := s.heap.size)
  generalize hAe : va_A ((zC9 (zO9 h0 5 [.null, .null]) pre)) s.heap.size = A at hD ⊢
  have hA : ∀ q : Nat, s.heap.size ≤ q → A q := fun q h => by rw [← hAe]; exact Or.inr h
  have hS : va_S A s.heap s.heap [] := va_S.rf
  have hl := lv_entry ([.ref h0, .ref h1, .ref h2]) (n := 3) (Nat.le_of_ble_eq_true rfl)
  rw [lg_entry_eq]
  generalize (lg_sl ([.ref h0, .ref h1, .ref h2]) ++ List.replicate (3 - (lg_sl ([.ref h0, .ref h1, .ref h2])).length) Slot.unset).toArray = ls at hl ⊢
  have hl : lv_has ls 3 [(0, .ref h0), (1, .ref h1), (2, .ref h2)] := hl
  refine lv_aload_n hx hb i_X7_init_0.1 rfl (lv_at hl 0 rfl) ?_
  refine W.objInit hx hb hown (hts (.methodLink RX7 3 objectInit) (zwd_26)) (hts (.instanceMethod objectInit) (zwd_1)) (hts _ (zwd_2)) rfl (by rw [hml]; exact hl.1) rfl i_X7_init_1.1 (Nat.le_of_ble_eq_true rfl) (Nat.le_of_ble_eq_true rfl) ?_
  refine W.eq (g2 := F0 m 4 ls []) rfl ?_
  refine lv_aload_n hx hb i_X7_init_4.1 rfl (lv_at hl 0 rfl) ?_
  refine lv_aload_n hx hb i_X7_init_5.1 rfl (lv_at hl 1 rfl) ?_
  refine va_putF (D := (dC, dI)) (ci := 5) (v := .ref h1) (C := RX7) (T := TX7) (N := 2) hx hb hts zK5.2.1 tyX7 tyX7_ok nmX7 hown hK hP hD hS 0 rfl rfl 0 (by decide) (hts _ (zwd_27)) (fun _ h9 => h9) rfl hin rfl (tyX7_ok 0 (by decide)) rfl rfl (Nat.le_of_ble_eq_true rfl) i_X7_init_6.1 (fun H locs hP hD hS => ?_)
  have hP : va_P (dC, dI) vwCl ((zC9 (zO9 h0 5 [.ref h1, .null]) pre)) H := hP
  have hD : va_D A ((zC9 (zO9 h0 5 [.ref h1, .null]) pre)) := hD
  refine lv_aload_n hx hb i_X7_init_9.1 rfl (lv_at hl 0 rfl) ?_
  refine lv_aload_n hx hb i_X7_init_10.1 rfl (lv_at hl 2 rfl) ?_
  refine va_putF (D := (dC, dI)) (ci := 5) (v := .ref h2) (C := RX7) (T := TX7) (N := 2) hx hb hts zK5.2.1 tyX7 tyX7_ok nmX7 hown hK hP hD hS 0 rfl rfl 1 (by decide) (hts _ (zwd_28)) (fun _ h9 => h9) rfl hin rfl (tyX7_ok 1 (by decide)) rfl rfl (Nat.le_of_ble_eq_true rfl) i_X7_init_11.1 (fun H locs hP hD hS => ?_)
  have hP : va_P (dC, dI) vwCl ((zC9 (zO9 h0 5 [.ref h1, .ref h2]) pre)) H := hP
  have hD : va_D A ((zC9 (zO9 h0 5 [.ref h1, .ref h2]) pre)) := hD
  exact W.vret hx hb hr (fun t ht hW => ⟨⟨(fun i => ([] : List Nat).getD i 0), rfl, trivial, by rw [ht]; exact hP, va_K.moved hW.alike hK, hD⟩, hS.F ht⟩) hS.2.2 i_X7_init_14.1 hlocks
set_option maxHeartbeats 4000000 in
set_option maxRecDepth 100000 in
theorem c_X2_init (dC : Nat → ClassId) (dI : Nat → Nat → Nat) (cA : ClassId) (pre : va_W) (h0 h1 h2 : Nat) : zNt kX2_init 1 1 384 (dC, dI) cA [.ref h0, .ref h1, .ref h2] ((zC9 (zO9 h0 2 [.null, .null, .null]) pre)) (fun u => (zC9 (zO9 h0 2 [.ref h1, .ref h2, .ref (u 0)]) (zS9 pre (zR9 cA (u 0) 384)))) := by
  intro l sz
  refine Met.ofW (cc := kX2_init.2.1) (maxL := 3) (ret := none) (ws' := zt) (by decide) rfl ?_
  intro p e s m args below meth c s₁ B hml hv
  obtain ⟨rfl, hsz, hP, hK, hD0, hnw⟩ := hv
  have hx := B.exec
  have hb : c.code = kX2_init.2.1 := B.bytes
  have hr := B.returns
  have hts0 := atoms_spec (ws := zw kX2_init) B.pre
  have hts : ∀ w ∈ zt, w.before _ s = true := fun w hw => hts0 w (List.mem_cons_of_mem _ hw)
  have hown : s.vm.findClass RX2 = some m.cls := findClass_of_methodNamed B.named
  have hlocks := B.notSynchronized
  have hin : meth.name = "<init>" := (name_of_methodNamed B.named B.method).1
  subst hsz
  have hD := hD0.self (sz := s.heap.size)
  generalize hAe : va_A ((zC9 (zO9 h0 2 [.null, .null, .null]) pre)) s.heap.size = A at hD ⊢
  have hA : ∀ q : Nat, s.heap.size ≤ q → A q := fun q h => by rw [← hAe]; exact Or.inr h
  have hS : va_S A s.heap s.heap [] := va_S.rf
  have hl := lv_entry ([.ref h0, .ref h1, .ref h2]) (n := 3) (Nat.le_of_ble_eq_true rfl)
  rw [lg_entry_eq]
  generalize (lg_sl ([.ref h0, .ref h1, .ref h2]) ++ List.replicate (3 - (lg_sl ([.ref h0, .ref h1, .ref h2])).length) Slot.unset).toArray = ls at hl ⊢
  have hl : lv_has ls 3 [(0, .ref h0), (1, .ref h1), (2, .ref h2)] := hl
  refine lv_aload_n hx hb i_X2_init_0.1 rfl (lv_at hl 0 rfl) ?_
  refine W.objInit hx hb hown (hts (.methodLink RX2 3 objectInit) (zwd_29)) (hts (.instanceMethod objectInit) (zwd_1)) (hts _ (zwd_2)) rfl (by rw [hml]; exact hl.1) rfl i_X2_init_1.1 (Nat.le_of_ble_eq_true rfl) (Nat.le_of_ble_eq_true rfl) ?_
  refine W.eq (g2 := F0 m 4 ls []) rfl ?_
  refine lv_aload_n hx hb i_X2_init_4.1 rfl (lv_at hl 0 rfl) ?_
  refine lv_sipush (v := 384) hx hb i_X2_init_5.1 (by decide +kernel) ?_
  refine va_newa (atype := .int) (ty := .int) (a0 := (384, .inl (fun _ => 0))) (N' := 384) hx hb (hts (.arrayClass .int) (zwd_3)) rfl hK hP hD hS hA (fun _ => rfl) (by decide +kernel) (by decide +kernel) (Nat.le_of_ble_eq_true rfl) (Nat.le_of_ble_eq_true rfl) (Nat.le_of_ble_eq_true rfl) i_X2_init_8.1 (fun q1 cA2 H hK2 hP hD hS => ?_)
  obtain rfl : cA = cA2 := zcA hK2
  have hP : va_P (dC, dI) vwCl ((zC9 (zO9 h0 2 [.null, .null, .null]) (zS9 pre (zR9 cA q1 384)))) H := hP
  have hD : va_D A ((zC9 (zO9 h0 2 [.null, .null, .null]) (zS9 pre (zR9 cA q1 384)))) := hD
  refine va_putF (D := (dC, dI)) (ci := 2) (v := .ref q1) (C := RX2) (T := TX2) (N := 3) hx hb hts zK2.2.1 tyX2 tyX2_ok nmX2 hown hK hP hD hS 0 rfl rfl 2 (by decide) (hts _ (zwd_30)) (fun _ h9 => h9) rfl hin rfl (tyX2_ok 2 (by decide)) rfl rfl (Nat.le_of_ble_eq_true rfl) i_X2_init_10.1 (fun H locs hP hD hS => ?_)
  have hP : va_P (dC, dI) vwCl ((zC9 (zO9 h0 2 [.null, .null, .ref q1]) (zS9 pre (zR9 cA q1 384)))) H := hP
  have hD : va_D A ((zC9 (zO9 h0 2 [.null, .null, .ref q1]) (zS9 pre (zR9 cA q1 384)))) := hD
  refine lv_aload_n hx hb i_X2_init_13.1 rfl (lv_at hl 0 rfl) ?_
  refine lv_aload_n hx hb i_X2_init_14.1 rfl (lv_at hl 1 rfl) ?_
  refine va_putF (D := (dC, dI)) (ci := 2) (v := .ref h1) (C := RX2) (T := TX2) (N := 3) hx hb hts zK2.2.1 tyX2 tyX2_ok nmX2 hown hK hP hD hS 0 rfl rfl 0 (by decide) (hts _ (zwd_31)) (fun _ h9 => h9) rfl hin rfl (tyX2_ok 0 (by decide)) rfl rfl (Nat.le_of_ble_eq_true rfl) i_X2_init_15.1 (fun H locs hP hD hS => ?_)
  have hP : va_P (dC, dI) vwCl ((zC9 (zO9 h0 2 [.ref h1, .null, .ref q1]) (zS9 pre (zR9 cA q1 384)))) H := hP
  have hD : va_D A ((zC9 (zO9 h0 2 [.ref h1, .null, .ref q1]) (zS9 pre (zR9 cA q1 384)))) := hD
  refine lv_aload_n hx hb i_X2_init_18.1 rfl (lv_at hl 0 rfl) ?_
  refine lv_aload_n hx hb i_X2_init_19.1 rfl (lv_at hl 2 rfl) ?_
  refine va_putF (D := (dC, dI)) (ci := 2) (v := .ref h2) (C := RX2) (T := TX2) (N := 3) hx hb hts zK2.2.1 tyX2 tyX2_ok nmX2 hown hK hP hD hS 0 rfl rfl 1 (by decide) (hts _ (zwd_32)) (fun _ h9 => h9) rfl hin rfl (tyX2_ok 1 (by decide)) rfl rfl (Nat.le_of_ble_eq_true rfl) i_X2_init_20.1 (fun H locs hP hD hS => ?_)
  have hP : va_P (dC, dI) vwCl ((zC9 (zO9 h0 2 [.ref h1, .ref h2, .ref q1]) (zS9 pre (zR9 cA q1 384)))) H := hP
  have hD : va_D A ((zC9 (zO9 h0 2 [.ref h1, .ref h2, .ref q1]) (zS9 pre (zR9 cA q1 384)))) := hD
  exact W.vret hx hb hr (fun t ht hW => ⟨⟨(fun i => ([q1] : List Nat).getD i 0), rfl, trivial, by rw [ht]; exact hP, va_K.moved hW.alike hK, hD⟩, hS.F ht⟩) hS.2.2 i_X2_init_23.1 hlocks
set_option maxHeartbeats 4000000 in
set_option maxRecDepth 100000 in
theorem c_X4_init (dC : Nat → ClassId) (dI : Nat → Nat → Nat) (cA : ClassId) (pre : va_W) (h0 h1 h2 : Nat) : zNt kX4_init 1 1 31 (dC, dI) cA [.ref h0, .ref h1, .ref h2] ((zC9 (zO9 h0 3 [.null, .null, .null]) pre)) (fun u => (zC9 (zO9 h0 3 [.ref h1, .ref h2, .ref (u 0)]) (zS9 pre (zR9 cA (u 0) 31)))) := by
  intro l sz
  refine Met.ofW (cc := kX4_init.2.1) (maxL := 3) (ret := none) (ws' := zt) (by decide) rfl ?_
  intro p e s m args below meth c s₁ B hml hv
  obtain ⟨rfl, hsz, hP, hK, hD0, hnw⟩ := hv
  have hx := B.exec
  have hb : c.code = kX4_init.2.1 := B.bytes
  have hr := B.returns
  have hts0 := atoms_spec (ws := zw kX4_init) B.pre
  have hts : ∀ w ∈ zt, w.before _ s = true := fun w hw => hts0 w (List.mem_cons_of_mem _ hw)
  have hown : s.vm.findClass RX4 = some m.cls := findClass_of_methodNamed B.named
  have hlocks := B.notSynchronized
  have hin : meth.name = "<init>" := (name_of_methodNamed B.named B.method).1
  subst hsz
  have hD := hD0.self (sz := s.heap.size)
  generalize hAe : va_A ((zC9 (zO9 h0 3 [.null, .null, .null]) pre)) s.heap.size = A at hD ⊢
  have hA : ∀ q : Nat, s.heap.size ≤ q → A q := fun q h => by rw [← hAe]; exact Or.inr h
  have hS : va_S A s.heap s.heap [] := va_S.rf
  have hl := lv_entry ([.ref h0, .ref h1, .ref h2]) (n := 3) (Nat.le_of_ble_eq_true rfl)
  rw [lg_entry_eq]
  generalize (lg_sl ([.ref h0, .ref h1, .ref h2]) ++ List.replicate (3 - (lg_sl ([.ref h0, .ref h1, .ref h2])).length) Slot.unset).toArray = ls at hl ⊢
  have hl : lv_has ls 3 [(0, .ref h0), (1, .ref h1), (2, .ref h2)] := hl
  refine lv_aload_n hx hb i_X4_init_0.1 rfl (lv_at hl 0 rfl) ?_
  refine W.objInit hx hb hown (hts (.methodLink RX4 3 objectInit) (zwd_33)) (hts (.instanceMethod objectInit) (zwd_1)) (hts _ (zwd_2)) rfl (by rw [hml]; exact hl.1) rfl i_X4_init_1.1 (Nat.le_of_ble_eq_true rfl) (Nat.le_of_ble_eq_true rfl) ?_
  refine W.eq (g2 := F0 m 4 ls []) rfl ?_
  refine lv_aload_n hx hb i_X4_init_4.1 rfl (lv_at hl 0 rfl) ?_
  refine lv_bipush (v := 31) hx hb i_X4_init_5.1 (by decide +kernel) ?_
  refine va_newa (atype := .int) (ty := .int) (a0 := (31, .inl (fun _ => 0))) (N' := 31) hx hb (hts (.arrayClass .int) (zwd_3)) rfl hK hP hD hS hA (fun _ => rfl) (by decide +kernel) (by decide +kernel) (Nat.le_of_ble_eq_true rfl) (Nat.le_of_ble_eq_true rfl) (Nat.le_of_ble_eq_true rfl) i_X4_init_7.1 (fun q1 cA2 H hK2 hP hD hS => ?_)
  obtain rfl : cA = cA2 := zcA hK2
  have hP : va_P (dC, dI) vwCl ((zC9 (zO9 h0 3 [.null, .null, .null]) (zS9 pre (zR9 cA q1 31)))) H := hP
  have hD : va_D A ((zC9 (zO9 h0 3 [.null, .null, .null]) (zS9 pre (zR9 cA q1 31)))) := hD
  refine va_putF (D := (dC, dI)) (ci := 3) (v := .ref q1) (C := RX4) (T := TX4) (N := 3) hx hb hts zK3.2.1 tyX4 tyX4_ok nmX4 hown hK hP hD hS 0 rfl rfl 2 (by decide) (hts _ (zwd_34)) (fun _ h9 => h9) rfl hin rfl (tyX4_ok 2 (by decide)) rfl rfl (Nat.le_of_ble_eq_true rfl) i_X4_init_9.1 (fun H locs hP hD hS => ?_)
  have hP : va_P (dC, dI) vwCl ((zC9 (zO9 h0 3 [.null, .null, .ref q1]) (zS9 pre (zR9 cA q1 31)))) H := hP
  have hD : va_D A ((zC9 (zO9 h0 3 [.null, .null, .ref q1]) (zS9 pre (zR9 cA q1 31)))) := hD
  refine lv_aload_n hx hb i_X4_init_12.1 rfl (lv_at hl 0 rfl) ?_
  refine lv_aload_n hx hb i_X4_init_13.1 rfl (lv_at hl 1 rfl) ?_
  refine va_putF (D := (dC, dI)) (ci := 3) (v := .ref h1) (C := RX4) (T := TX4) (N := 3) hx hb hts zK3.2.1 tyX4 tyX4_ok nmX4 hown hK hP hD hS 0 rfl rfl 0 (by decide) (hts _ (zwd_35)) (fun _ h9 => h9) rfl hin rfl (tyX4_ok 0 (by decide)) rfl rfl (Nat.le_of_ble_eq_true rfl) i_X4_init_14.1 (fun H locs hP hD hS => ?_)
  have hP : va_P (dC, dI) vwCl ((zC9 (zO9 h0 3 [.ref h1, .null, .ref q1]) (zS9 pre (zR9 cA q1 31)))) H := hP
  have hD : va_D A ((zC9 (zO9 h0 3 [.ref h1, .null, .ref q1]) (zS9 pre (zR9 cA q1 31)))) := hD
  refine lv_aload_n hx hb i_X4_init_17.1 rfl (lv_at hl 0 rfl) ?_
  refine lv_aload_n hx hb i_X4_init_18.1 rfl (lv_at hl 2 rfl) ?_
  refine va_putF (D := (dC, dI)) (ci := 3) (v := .ref h2) (C := RX4) (T := TX4) (N := 3) hx hb hts zK3.2.1 tyX4 tyX4_ok nmX4 hown hK hP hD hS 0 rfl rfl 1 (by decide) (hts _ (zwd_36)) (fun _ h9 => h9) rfl hin rfl (tyX4_ok 1 (by decide)) rfl rfl (Nat.le_of_ble_eq_true rfl) i_X4_init_19.1 (fun H locs hP hD hS => ?_)
  have hP : va_P (dC, dI) vwCl ((zC9 (zO9 h0 3 [.ref h1, .ref h2, .ref q1]) (zS9 pre (zR9 cA q1 31)))) H := hP
  have hD : va_D A ((zC9 (zO9 h0 3 [.ref h1, .ref h2, .ref q1]) (zS9 pre (zR9 cA q1 31)))) := hD
  exact W.vret hx hb hr (fun t ht hW => ⟨⟨(fun i => ([q1] : List Nat).getD i 0), rfl, trivial, by rw [ht]; exact hP, va_K.moved hW.alike hK, hD⟩, hS.F ht⟩) hS.2.2 i_X4_init_22.1 hlocks
