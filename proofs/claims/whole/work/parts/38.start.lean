def zM0 : zMem := fun m r i => if m < 4 ∧ r = 6 ∧ i = 1 then 1 else 0
theorem zM0_z {m r : Nat} {i : Int} (h : ¬ (m < 4 ∧ r = 6 ∧ i = 1)) : zM0 m r i = 0 := if_neg h
theorem zM0_ok (m : Nat) (hm : m < 4) : zOk 999 (zM0 m) := by
  have h1 : zM0 m 6 1 = 1 := if_pos ⟨hm, rfl, rfl⟩
  refine ⟨?_, fun g g0 g1 => ?_⟩
  · unfold zH
    rw [h1, zM0_z (by omega), zM0_z (by omega), zM0_z (by omega), zM0_z (by omega)]
    omega
  · unfold zG
    rw [zM0_z (by omega), zM0_z (by omega), zM0_z (by omega), zM0_z (by omega), zM0_z (by omega), zM0_z (by omega)]
    omega
theorem zM0_inv : zInv zM0 := by
  have hz : ∀ (m r : Nat) (i : Int), 4 ≤ m → zM0 m r i = 0 := fun m r i h => zM0_z (by omega)
  refine ⟨⟨zM0_ok 0 (by decide), ⟨by rw [hz _ _ _ (by decide)]; decide, fun i _ _ => by rw [hz _ _ _ (by decide)]; decide⟩, ⟨by rw [hz _ _ _ (by decide)]; decide, fun i _ _ => by rw [hz _ _ _ (by decide)]; decide⟩, ⟨by rw [hz _ _ _ (by decide)]; decide, by rw [hz _ _ _ (by decide)]; decide, fun i _ _ => by rw [hz _ _ _ (by decide)]; decide⟩, zM0_ok 2 (by decide), by rw [hz _ _ _ (by decide)]; decide⟩, ?_⟩
  refine ⟨?_, ?_, ?_, fun i _ _ => by rw [hz _ _ _ (by decide), hz _ _ _ (by decide)], by unfold zSv; rw [hz _ _ _ (by decide)]; decide, by rw [hz _ _ _ (by decide), hz _ _ _ (by decide)], fun h => by rw [hz _ _ _ (by decide)] at h; exact absurd h (by decide), by rw [hz _ _ _ (by decide), hz _ _ _ (by decide)], by rw [hz 6 5 1 (by decide)]; trivial⟩
  · funext r i
    show (if 3 < 4 ∧ r = 6 ∧ i = 1 then (1 : Int) else 0) = (if 0 < 4 ∧ r = 6 ∧ i = 1 then 1 else 0)
    simp
  · funext r i; rw [hz _ _ _ (by decide), hz _ _ _ (by decide)]
  · funext r i; rw [hz _ _ _ (by decide), hz _ _ _ (by decide)]
def zPm : Nat → Nat := (fun k : Nat => ([9, 11, 12, 13, 14, 15, 16, 8, 17, 18, 19, 20, 21, 22, 7, 23, 24, 25, 26, 27, 28, 6, 29, 5, 30, 4, 31, 32, 33, 34, 35, 3, 2, 36, 1, 37, 10, 38, 0, 39, 40, 41, 42, 43, 44, 45, 46, 47, 48, 49, 50, 51, 52, 53, 54] : List Nat).getD k 0)
theorem zPm_inj : ∀ i j : Nat, i < 55 → j < 55 → zPm i = zPm j → i = j := by
  have h : ∀ i : Fin 55, ∀ j : Fin 55, zPm i.val = zPm j.val → i.val = j.val := by decide +kernel
  exact fun i j hi hj => h ⟨i, hi⟩ ⟨j, hj⟩
set_option maxHeartbeats 4000000 in
set_option maxRecDepth 100000 in
theorem zstart_at {cA : ClassId} {q1 q3 : Nat} {u2 u4 : Nat → Nat} : ∀ (k : Nat) (e : zSh), zwl[k]? = some e → (([(zO9 q3 7 [.ref (u4 0), .ref (u4 1), .ref (u4 2), .ref (u4 3), .ref (u4 4), .ref (u4 5), .ref (u4 6), .int 0, .int 1, .int 0, .int 0, .int 0, .ref (u4 7), .ref (u4 8), .ref (u4 9), .ref (u4 10), .int 0, .int 0, .int 0, .ref (u4 11), .int 0, .int 0, .int 0, .int 0, .ref (u4 12), .int 0, .ref (u4 13), .int 0, .ref (u4 14), .ref (u4 15)]), (zO9 (u2 0) 3 [.ref (u2 8), .ref (u2 7), .ref (u2 35)]), (zO9 (u2 1) 2 [.ref (u2 8), .ref (u2 7), .ref (u2 34)]), (zO9 (u2 2) 5 [.ref (u2 8), .ref (u2 7)]), (zO9 (u2 3) 1 [.ref (u2 29), .ref (u2 30), .ref (u2 31), .ref (u2 32), .ref (u2 33), .int 0, .int 0]), (zO9 (u2 4) 4 [.ref (u2 28), .int 0]), (zO9 (u2 5) 4 [.ref (u2 27), .int 0]), (zO9 (u2 6) 0 [.ref (u2 21), .ref (u2 22), .ref (u2 23), .ref (u2 24), .ref (u2 25), .ref (u2 26), .int 0, .int 1, .int 0, .int 0, .int 0]), (zO9 (u2 7) 0 [.ref (u2 15), .ref (u2 16), .ref (u2 17), .ref (u2 18), .ref (u2 19), .ref (u2 20), .int 0, .int 1, .int 0, .int 0, .int 0]), (zO9 (u2 8) 0 [.ref (u2 9), .ref (u2 10), .ref (u2 11), .ref (u2 12), .ref (u2 13), .ref (u2 14), .int 0, .int 1, .int 0, .int 0, .int 0]), (zO9 q1 6 [.ref (u2 8), .ref (u2 7), .ref (u2 6), .ref (u2 5), .ref (u2 4), .ref (u2 3), .ref (u2 2), .ref (u2 1), .ref (u2 0), .ref (u2 36), .int 0]), (zR9 cA (u2 9) 6), (zR9 cA (u2 10) 6), (zR9 cA (u2 11) 6), (zR9 cA (u2 12) 6), (zR9 cA (u2 13) 6), (zR9 cA (u2 14) 6), (zR9 cA (u2 15) 6), (zR9 cA (u2 16) 6), (zR9 cA (u2 17) 6), (zR9 cA (u2 18) 6), (zR9 cA (u2 19) 6), (zR9 cA (u2 20) 6), (zR9 cA (u2 21) 6), (zR9 cA (u2 22) 6), (zR9 cA (u2 23) 6), (zR9 cA (u2 24) 6), (zR9 cA (u2 25) 6), (zR9 cA (u2 26) 6), (zR9 cA (u2 27) 96), (zR9 cA (u2 28) 12), (zR9 cA (u2 29) 8), (zR9 cA (u2 30) 8), (zR9 cA (u2 31) 8), (zR9 cA (u2 32) 8), (zR9 cA (u2 33) 8), (zR9 cA (u2 34) 384), (zR9 cA (u2 35) 31), (zR9 cA (u2 36) 6), (zR9 cA (u4 0) 7), (zR9 cA (u4 1) 6), (zR9 cA (u4 2) 6), (zR9 cA (u4 3) 6), (zR9 cA (u4 4) 6), (zR9 cA (u4 5) 6), (zR9 cA (u4 6) 6), (zR9 cA (u4 7) 96), (zR9 cA (u4 8) 48), (zR9 cA (u4 9) 48), (zR9 cA (u4 10) 144), (zR9 cA (u4 11) 462), (zR9 cA (u4 12) 200), (zR9 cA (u4 13) 12), (zR9 cA (u4 14) 31), (zR9 cA (u4 15) 6)] : va_W))[zPm k]? = some ((fun k : Nat => ([(u2 8), (u2 9), (u2 10), (u2 11), (u2 12), (u2 13), (u2 14), (u2 7), (u2 15), (u2 16), (u2 17), (u2 18), (u2 19), (u2 20), (u2 6), (u2 21), (u2 22), (u2 23), (u2 24), (u2 25), (u2 26), (u2 5), (u2 27), (u2 4), (u2 28), (u2 3), (u2 29), (u2 30), (u2 31), (u2 32), (u2 33), (u2 2), (u2 1), (u2 34), (u2 0), (u2 35), q1, (u2 36), q3, (u4 0), (u4 1), (u4 2), (u4 3), (u4 4), (u4 5), (u4 6), (u4 7), (u4 8), (u4 9), (u4 10), (u4 11), (u4 12), (u4 13), (u4 14), (u4 15)] : List Nat).getD k 0) k, zcell (fun k : Nat => ([(u2 8), (u2 9), (u2 10), (u2 11), (u2 12), (u2 13), (u2 14), (u2 7), (u2 15), (u2 16), (u2 17), (u2 18), (u2 19), (u2 20), (u2 6), (u2 21), (u2 22), (u2 23), (u2 24), (u2 25), (u2 26), (u2 5), (u2 27), (u2 4), (u2 28), (u2 3), (u2 29), (u2 30), (u2 31), (u2 32), (u2 33), (u2 2), (u2 1), (u2 34), (u2 0), (u2 35), q1, (u2 36), q3, (u4 0), (u4 1), (u4 2), (u4 3), (u4 4), (u4 5), (u4 6), (u4 7), (u4 8), (u4 9), (u4 10), (u4 11), (u4 12), (u4 13), (u4 14), (u4 15)] : List Nat).getD k 0) cA zM0 e) := by
  intro k e he
  match k, he with
  | 0, he => obtain rfl := Option.some.inj he; rfl
  | 1, he => obtain rfl := Option.some.inj he; rfl
  | 2, he => obtain rfl := Option.some.inj he; rfl
  | 3, he => obtain rfl := Option.some.inj he; rfl
  | 4, he => obtain rfl := Option.some.inj he; rfl
  | 5, he => obtain rfl := Option.some.inj he; rfl
  | 6, he => obtain rfl := Option.some.inj he; rfl
  | 7, he => obtain rfl := Option.some.inj he; rfl
  | 8, he => obtain rfl := Option.some.inj he; rfl
  | 9, he => obtain rfl := Option.some.inj he; rfl
  | 10, he => obtain rfl := Option.some.inj he; rfl
  | 11, he => obtain rfl := Option.some.inj he; rfl
  | 12, he => obtain rfl := Option.some.inj he; rfl
  | 13, he => obtain rfl := Option.some.inj he; rfl
  | 14, he => obtain rfl := Option.some.inj he; rfl
  | 15, he => obtain rfl := Option.some.inj he; rfl
  | 16, he => obtain rfl := Option.some.inj he; rfl
  | 17, he => obtain rfl := Option.some.inj he; rfl
  | 18, he => obtain rfl := Option.some.inj he; rfl
  | 19, he => obtain rfl := Option.some.inj he; rfl
  | 20, he => obtain rfl := Option.some.inj he; rfl
  | 21, he => obtain rfl := Option.some.inj he; rfl
  | 22, he => obtain rfl := Option.some.inj he; rfl
  | 23, he => obtain rfl := Option.some.inj he; rfl
  | 24, he => obtain rfl := Option.some.inj he; rfl
  | 25, he => obtain rfl := Option.some.inj he; rfl
  | 26, he => obtain rfl := Option.some.inj he; rfl
  | 27, he => obtain rfl := Option.some.inj he; rfl
  | 28, he => obtain rfl := Option.some.inj he; rfl
  | 29, he => obtain rfl := Option.some.inj he; rfl
  | 30, he => obtain rfl := Option.some.inj he; rfl
  | 31, he => obtain rfl := Option.some.inj he; rfl
  | 32, he => obtain rfl := Option.some.inj he; rfl
  | 33, he => obtain rfl := Option.some.inj he; rfl
  | 34, he => obtain rfl := Option.some.inj he; rfl
  | 35, he => obtain rfl := Option.some.inj he; rfl
  | 36, he => obtain rfl := Option.some.inj he; rfl
  | 37, he => obtain rfl := Option.some.inj he; rfl
  | 38, he => obtain rfl := Option.some.inj he; rfl
  | 39, he => obtain rfl := Option.some.inj he; rfl
  | 40, he => obtain rfl := Option.some.inj he; rfl
  | 41, he => obtain rfl := Option.some.inj he; rfl
  | 42, he => obtain rfl := Option.some.inj he; rfl
  | 43, he => obtain rfl := Option.some.inj he; rfl
  | 44, he => obtain rfl := Option.some.inj he; rfl
  | 45, he => obtain rfl := Option.some.inj he; rfl
  | 46, he => obtain rfl := Option.some.inj he; rfl
  | 47, he => obtain rfl := Option.some.inj he; rfl
  | 48, he => obtain rfl := Option.some.inj he; rfl
  | 49, he => obtain rfl := Option.some.inj he; rfl
  | 50, he => obtain rfl := Option.some.inj he; rfl
  | 51, he => obtain rfl := Option.some.inj he; rfl
  | 52, he => obtain rfl := Option.some.inj he; rfl
  | 53, he => obtain rfl := Option.some.inj he; rfl
  | 54, he => obtain rfl := Option.some.inj he; rfl
  | k + 55, he => exact absurd (zN_lt he) (by unfold zN; omega)
set_option maxHeartbeats 4000000 in
set_option maxRecDepth 100000 in
/-- THE LAW, from its entry -/
theorem whole_start {p : Program} {e : Env} {s : State} {m : MethodId} {below : List Frame} {meth : Method} {c : Code} (l : Launch) (hflags : l.flags = flags0) {b L : Nat} {xs : Nat → Int32} (hL : L ≤ 2560) (C0 : lw_At p s m meth c b L xs) : W p l e room_1 s m #[Value.ref b] below meth c s.heap [] 0 0 (lw_Z below #[Value.ref b] s) (entryFrame m ([Value.ref b] : List Value).toArray 4) := by
  obtain ⟨hx, hb, hr, hml, hown, hts0, hX, hbl, hlocks, hgv⟩ := id C0
  have hts : ∀ w ∈ zt, w.before #[Value.ref b] s = true := fun w hw => hts0 w (List.mem_filter.mp hw).1
  have hnw : ∀ w ∈ zn, va_Nw w s := fun w hw => zn_of (A := #[Value.ref b]) hw (hts0 w (List.mem_filter.mp hw).1)
  obtain ⟨c0, i0, hKn0⟩ := u_known (C := RX0) (T := TX0) (N := 11) (n := 11) hts zK0.2.1 (hts (.instantiable RX0 11) (zwd_57))
  obtain ⟨c1, i1, hKn1⟩ := u_known (C := RX1) (T := TX1) (N := 7) (n := 7) hts zK1.2.1 (hts (.instantiable RX1 7) (zwd_66))
  obtain ⟨c2, i2, hKn2⟩ := u_known (C := RX2) (T := TX2) (N := 3) (n := 3) hts zK2.2.1 (hts (.instantiable RX2 3) (zwd_72))
  obtain ⟨c3, i3, hKn3⟩ := u_known (C := RX4) (T := TX4) (N := 3) (n := 3) hts zK3.2.1 (hts (.instantiable RX4 3) (zwd_75))
  obtain ⟨c4, i4, hKn4⟩ := u_known (C := RX6) (T := TX6) (N := 2) (n := 2) hts zK4.2.1 (hts (.instantiable RX6 2) (zwd_62))
  obtain ⟨c5, i5, hKn5⟩ := u_known (C := RX7) (T := TX7) (N := 2) (n := 2) hts zK5.2.1 (hts (.instantiable RX7 2) (zwd_69))
  obtain ⟨c6, i6, hKn6⟩ := u_known (C := RX9) (T := TX9) (N := 11) (n := 11) hts zK6.2.1 (hts (.instantiable RX9 11) (zwd_80))
  obtain ⟨c7, i7, hKn7⟩ := u_known (C := RX10) (T := TX10) (N := 30) (n := 30) hts zK7.2.1 (hts (.instantiable RX10 30) (zwd_82))
  obtain ⟨dC, dI, hKc⟩ : ∃ (dC : Nat → ClassId) (dI : Nat → Nat → Nat), ∀ (k : Nat) (q : vw_C), vwCl[k]? = some q → u_Kn s q.1 q.2.1 q.2.2 (dC k) (dI k) := by
    refine ⟨fun k => ([c0, c1, c2, c3, c4, c5, c6, c7] : List ClassId).getD k c0, fun k => ([i0, i1, i2, i3, i4, i5, i6, i7] : List (Nat → Nat)).getD k i0, ?_⟩
    intro k q hq
    match k, hq with
    | 0, hq => cases hq; exact hKn0
    | 1, hq => cases hq; exact hKn1
    | 2, hq => cases hq; exact hKn2
    | 3, hq => cases hq; exact hKn3
    | 4, hq => cases hq; exact hKn4
    | 5, hq => cases hq; exact hKn5
    | 6, hq => cases hq; exact hKn6
    | 7, hq => cases hq; exact hKn7
    | k + 8, hq => exact absurd (List.getElem?_eq_some_iff.mp hq).1 (by show ¬ k + 8 < 8; omega)
  obtain ⟨cA, kA, comp, ha1, ha2, ha3⟩ := Cond.arrayClass_spec (hts (.arrayClass .int) (zwd_3))
  have hK : va_K (dC, dI) vwCl [(cA, .int)] s := ⟨hKc, fun k q hq => by
    match k, hq with
    | 0, hq => cases hq; exact ⟨fun n z => ⟨fun k h => (by cases h), kA, ha2, comp, ha3⟩, ha1⟩
    | k + 1, hq => simp at hq⟩
  obtain ⟨A, hAe⟩ : ∃ A : Nat → Prop, A = fun q : Nat => s.heap.size ≤ q := ⟨_, rfl⟩
  have hA : ∀ q : Nat, s.heap.size ≤ q → A q := fun q h => by rw [hAe]; exact h
  have hS : va_S A s.heap s.heap [] := va_S.rf
  have hP : va_P (dC, dI) vwCl [] s.heap := fun k q h => by simp at h
  have hD : va_D A [] := ⟨fun i j p q h => by simp at h, fun k q h => by simp at h⟩
  have hl := lv_entry ([.ref b]) (n := 4) (Nat.le_of_ble_eq_true rfl)
  rw [lg_entry_eq]
  generalize (lg_sl ([.ref b]) ++ List.replicate (4 - (lg_sl ([.ref b])).length) Slot.unset).toArray = ls at hl ⊢
  have hl : lv_has ls 4 [(0, .ref b)] := hl
  refine va_new (ci := 6) (fs := [.null, .null, .null, .null, .null, .null, .null, .null, .null, .null, .int 0]) (C := RX9) (T := TX9) (N := 11) hx hb hts zK6.2.1 tyX9 tyX9_ok hown (hts _ (zwd_79)) (hts _ (zwd_80)) (hts _ n_X9_init.1.2.1) hK hP hD hS hA rfl (fun j hj => by rcases (show j = 0 ∨ j = 1 ∨ j = 2 ∨ j = 3 ∨ j = 4 ∨ j = 5 ∨ j = 6 ∨ j = 7 ∨ j = 8 ∨ j = 9 ∨ j = 10 by omega) with rfl | rfl | rfl | rfl | rfl | rfl | rfl | rfl | rfl | rfl | rfl <;> rfl) (Nat.le_of_ble_eq_true rfl) (Nat.le_of_ble_eq_true rfl) dL_law_0 (fun q1 H hP hD hS => ?_)
  have hP := va_P_rot hP
  have hD := va_D_rot hD
  have hP : va_P (dC, dI) vwCl ((zC9 (zO9 q1 6 [.null, .null, .null, .null, .null, .null, .null, .null, .null, .null, .int 0]) ([] : va_W))) H := hP
  have hD : va_D A ((zC9 (zO9 q1 6 [.null, .null, .null, .null, .null, .null, .null, .null, .null, .null, .int 0]) ([] : va_W))) := hD
  refine lv_dup hx hb dL_law_3 rfl ?_
  refine zN_call (As := []) (rest := [.ref q1]) (own := RL) hx hb hml hown hts hnw hK hP hD hS hA (c_X9_init dC dI cA (([] : va_W)) q1) l_L_9 n_X9_init rfl rfl rfl ⟨(Nat.le_of_ble_eq_true rfl), (Nat.le_of_ble_eq_true rfl)⟩ ⟨(Nat.le_of_ble_eq_true rfl), (Nat.le_of_ble_eq_true rfl)⟩ dL_law_4 (Nat.le_of_ble_eq_true rfl) hl.1 (fun u2 H locs hP hD hS => ?_)
  have hP : va_P (dC, dI) vwCl ((zC9 (zO9 (u2 0) 3 [.ref (u2 8), .ref (u2 7), .ref (u2 35)]) (zC9 (zO9 (u2 1) 2 [.ref (u2 8), .ref (u2 7), .ref (u2 34)]) (zC9 (zO9 (u2 2) 5 [.ref (u2 8), .ref (u2 7)]) (zC9 (zO9 (u2 3) 1 [.ref (u2 29), .ref (u2 30), .ref (u2 31), .ref (u2 32), .ref (u2 33), .int 0, .int 0]) (zC9 (zO9 (u2 4) 4 [.ref (u2 28), .int 0]) (zC9 (zO9 (u2 5) 4 [.ref (u2 27), .int 0]) (zC9 (zO9 (u2 6) 0 [.ref (u2 21), .ref (u2 22), .ref (u2 23), .ref (u2 24), .ref (u2 25), .ref (u2 26), .int 0, .int 1, .int 0, .int 0, .int 0]) (zC9 (zO9 (u2 7) 0 [.ref (u2 15), .ref (u2 16), .ref (u2 17), .ref (u2 18), .ref (u2 19), .ref (u2 20), .int 0, .int 1, .int 0, .int 0, .int 0]) (zC9 (zO9 (u2 8) 0 [.ref (u2 9), .ref (u2 10), .ref (u2 11), .ref (u2 12), .ref (u2 13), .ref (u2 14), .int 0, .int 1, .int 0, .int 0, .int 0]) (zC9 (zO9 q1 6 [.ref (u2 8), .ref (u2 7), .ref (u2 6), .ref (u2 5), .ref (u2 4), .ref (u2 3), .ref (u2 2), .ref (u2 1), .ref (u2 0), .ref (u2 36), .int 0]) (zS9 (zS9 (zS9 (zS9 (zS9 (zS9 (zS9 (zS9 (zS9 (zS9 (zS9 (zS9 (zS9 (zS9 (zS9 (zS9 (zS9 (zS9 (zS9 (zS9 (zS9 (zS9 (zS9 (zS9 (zS9 (zS9 (zS9 (zS9 ([] : va_W) (zR9 cA (u2 9) 6)) (zR9 cA (u2 10) 6)) (zR9 cA (u2 11) 6)) (zR9 cA (u2 12) 6)) (zR9 cA (u2 13) 6)) (zR9 cA (u2 14) 6)) (zR9 cA (u2 15) 6)) (zR9 cA (u2 16) 6)) (zR9 cA (u2 17) 6)) (zR9 cA (u2 18) 6)) (zR9 cA (u2 19) 6)) (zR9 cA (u2 20) 6)) (zR9 cA (u2 21) 6)) (zR9 cA (u2 22) 6)) (zR9 cA (u2 23) 6)) (zR9 cA (u2 24) 6)) (zR9 cA (u2 25) 6)) (zR9 cA (u2 26) 6)) (zR9 cA (u2 27) 96)) (zR9 cA (u2 28) 12)) (zR9 cA (u2 29) 8)) (zR9 cA (u2 30) 8)) (zR9 cA (u2 31) 8)) (zR9 cA (u2 32) 8)) (zR9 cA (u2 33) 8)) (zR9 cA (u2 34) 384)) (zR9 cA (u2 35) 31)) (zR9 cA (u2 36) 6))))))))))))) H := hP
  have hD : va_D A ((zC9 (zO9 (u2 0) 3 [.ref (u2 8), .ref (u2 7), .ref (u2 35)]) (zC9 (zO9 (u2 1) 2 [.ref (u2 8), .ref (u2 7), .ref (u2 34)]) (zC9 (zO9 (u2 2) 5 [.ref (u2 8), .ref (u2 7)]) (zC9 (zO9 (u2 3) 1 [.ref (u2 29), .ref (u2 30), .ref (u2 31), .ref (u2 32), .ref (u2 33), .int 0, .int 0]) (zC9 (zO9 (u2 4) 4 [.ref (u2 28), .int 0]) (zC9 (zO9 (u2 5) 4 [.ref (u2 27), .int 0]) (zC9 (zO9 (u2 6) 0 [.ref (u2 21), .ref (u2 22), .ref (u2 23), .ref (u2 24), .ref (u2 25), .ref (u2 26), .int 0, .int 1, .int 0, .int 0, .int 0]) (zC9 (zO9 (u2 7) 0 [.ref (u2 15), .ref (u2 16), .ref (u2 17), .ref (u2 18), .ref (u2 19), .ref (u2 20), .int 0, .int 1, .int 0, .int 0, .int 0]) (zC9 (zO9 (u2 8) 0 [.ref (u2 9), .ref (u2 10), .ref (u2 11), .ref (u2 12), .ref (u2 13), .ref (u2 14), .int 0, .int 1, .int 0, .int 0, .int 0]) (zC9 (zO9 q1 6 [.ref (u2 8), .ref (u2 7), .ref (u2 6), .ref (u2 5), .ref (u2 4), .ref (u2 3), .ref (u2 2), .ref (u2 1), .ref (u2 0), .ref (u2 36), .int 0]) (zS9 (zS9 (zS9 (zS9 (zS9 (zS9 (zS9 (zS9 (zS9 (zS9 (zS9 (zS9 (zS9 (zS9 (zS9 (zS9 (zS9 (zS9 (zS9 (zS9 (zS9 (zS9 (zS9 (zS9 (zS9 (zS9 (zS9 (zS9 ([] : va_W) (zR9 cA (u2 9) 6)) (zR9 cA (u2 10) 6)) (zR9 cA (u2 11) 6)) (zR9 cA (u2 12) 6)) (zR9 cA (u2 13) 6)) (zR9 cA (u2 14) 6)) (zR9 cA (u2 15) 6)) (zR9 cA (u2 16) 6)) (zR9 cA (u2 17) 6)) (zR9 cA (u2 18) 6)) (zR9 cA (u2 19) 6)) (zR9 cA (u2 20) 6)) (zR9 cA (u2 21) 6)) (zR9 cA (u2 22) 6)) (zR9 cA (u2 23) 6)) (zR9 cA (u2 24) 6)) (zR9 cA (u2 25) 6)) (zR9 cA (u2 26) 6)) (zR9 cA (u2 27) 96)) (zR9 cA (u2 28) 12)) (zR9 cA (u2 29) 8)) (zR9 cA (u2 30) 8)) (zR9 cA (u2 31) 8)) (zR9 cA (u2 32) 8)) (zR9 cA (u2 33) 8)) (zR9 cA (u2 34) 384)) (zR9 cA (u2 35) 31)) (zR9 cA (u2 36) 6))))))))))))) := hD
  refine lv_astore_n (lv' := [(1, .ref q1), (0, .ref b)]) hx hb dL_law_7 rfl hl (by decide) rfl (fun ls hl => ?_)
  refine va_new (ci := 7) (fs := [.null, .null, .null, .null, .null, .null, .null, .int 0, .int 0, .int 0, .int 0, .int 0, .null, .null, .null, .null, .int 0, .int 0, .int 0, .null, .int 0, .int 0, .int 0, .int 0, .null, .int 0, .null, .int 0, .null, .null]) (C := RX10) (T := TX10) (N := 30) hx hb hts zK7.2.1 tyX10 tyX10_ok hown (hts _ (zwd_81)) (hts _ (zwd_82)) (hts _ n_X10_init.1.2.1) hK hP hD hS hA rfl (fun j hj => by rcases (show j = 0 ∨ j = 1 ∨ j = 2 ∨ j = 3 ∨ j = 4 ∨ j = 5 ∨ j = 6 ∨ j = 7 ∨ j = 8 ∨ j = 9 ∨ j = 10 ∨ j = 11 ∨ j = 12 ∨ j = 13 ∨ j = 14 ∨ j = 15 ∨ j = 16 ∨ j = 17 ∨ j = 18 ∨ j = 19 ∨ j = 20 ∨ j = 21 ∨ j = 22 ∨ j = 23 ∨ j = 24 ∨ j = 25 ∨ j = 26 ∨ j = 27 ∨ j = 28 ∨ j = 29 by omega) with rfl | rfl | rfl | rfl | rfl | rfl | rfl | rfl | rfl | rfl | rfl | rfl | rfl | rfl | rfl | rfl | rfl | rfl | rfl | rfl | rfl | rfl | rfl | rfl | rfl | rfl | rfl | rfl | rfl | rfl <;> rfl) (Nat.le_of_ble_eq_true rfl) (Nat.le_of_ble_eq_true rfl) dL_law_8 (fun q3 H hP hD hS => ?_)
  have hP := va_P_rot hP
  have hD := va_D_rot hD
  have hP : va_P (dC, dI) vwCl ((zC9 (zO9 q3 7 [.null, .null, .null, .null, .null, .null, .null, .int 0, .int 0, .int 0, .int 0, .int 0, .null, .null, .null, .null, .int 0, .int 0, .int 0, .null, .int 0, .int 0, .int 0, .int 0, .null, .int 0, .null, .int 0, .null, .null]) (zC9 (zO9 (u2 0) 3 [.ref (u2 8), .ref (u2 7), .ref (u2 35)]) (zC9 (zO9 (u2 1) 2 [.ref (u2 8), .ref (u2 7), .ref (u2 34)]) (zC9 (zO9 (u2 2) 5 [.ref (u2 8), .ref (u2 7)]) (zC9 (zO9 (u2 3) 1 [.ref (u2 29), .ref (u2 30), .ref (u2 31), .ref (u2 32), .ref (u2 33), .int 0, .int 0]) (zC9 (zO9 (u2 4) 4 [.ref (u2 28), .int 0]) (zC9 (zO9 (u2 5) 4 [.ref (u2 27), .int 0]) (zC9 (zO9 (u2 6) 0 [.ref (u2 21), .ref (u2 22), .ref (u2 23), .ref (u2 24), .ref (u2 25), .ref (u2 26), .int 0, .int 1, .int 0, .int 0, .int 0]) (zC9 (zO9 (u2 7) 0 [.ref (u2 15), .ref (u2 16), .ref (u2 17), .ref (u2 18), .ref (u2 19), .ref (u2 20), .int 0, .int 1, .int 0, .int 0, .int 0]) (zC9 (zO9 (u2 8) 0 [.ref (u2 9), .ref (u2 10), .ref (u2 11), .ref (u2 12), .ref (u2 13), .ref (u2 14), .int 0, .int 1, .int 0, .int 0, .int 0]) (zC9 (zO9 q1 6 [.ref (u2 8), .ref (u2 7), .ref (u2 6), .ref (u2 5), .ref (u2 4), .ref (u2 3), .ref (u2 2), .ref (u2 1), .ref (u2 0), .ref (u2 36), .int 0]) (zS9 (zS9 (zS9 (zS9 (zS9 (zS9 (zS9 (zS9 (zS9 (zS9 (zS9 (zS9 (zS9 (zS9 (zS9 (zS9 (zS9 (zS9 (zS9 (zS9 (zS9 (zS9 (zS9 (zS9 (zS9 (zS9 (zS9 (zS9 ([] : va_W) (zR9 cA (u2 9) 6)) (zR9 cA (u2 10) 6)) (zR9 cA (u2 11) 6)) (zR9 cA (u2 12) 6)) (zR9 cA (u2 13) 6)) (zR9 cA (u2 14) 6)) (zR9 cA (u2 15) 6)) (zR9 cA (u2 16) 6)) (zR9 cA (u2 17) 6)) (zR9 cA (u2 18) 6)) (zR9 cA (u2 19) 6)) (zR9 cA (u2 20) 6)) (zR9 cA (u2 21) 6)) (zR9 cA (u2 22) 6)) (zR9 cA (u2 23) 6)) (zR9 cA (u2 24) 6)) (zR9 cA (u2 25) 6)) (zR9 cA (u2 26) 6)) (zR9 cA (u2 27) 96)) (zR9 cA (u2 28) 12)) (zR9 cA (u2 29) 8)) (zR9 cA (u2 30) 8)) (zR9 cA (u2 31) 8)) (zR9 cA (u2 32) 8)) (zR9 cA (u2 33) 8)) (zR9 cA (u2 34) 384)) (zR9 cA (u2 35) 31)) (zR9 cA (u2 36) 6)))))))))))))) H := hP
  have hD : va_D A ((zC9 (zO9 q3 7 [.null, .null, .null, .null, .null, .null, .null, .int 0, .int 0, .int 0, .int 0, .int 0, .null, .null, .null, .null, .int 0, .int 0, .int 0, .null, .int 0, .int 0, .int 0, .int 0, .null, .int 0, .null, .int 0, .null, .null]) (zC9 (zO9 (u2 0) 3 [.ref (u2 8), .ref (u2 7), .ref (u2 35)]) (zC9 (zO9 (u2 1) 2 [.ref (u2 8), .ref (u2 7), .ref (u2 34)]) (zC9 (zO9 (u2 2) 5 [.ref (u2 8), .ref (u2 7)]) (zC9 (zO9 (u2 3) 1 [.ref (u2 29), .ref (u2 30), .ref (u2 31), .ref (u2 32), .ref (u2 33), .int 0, .int 0]) (zC9 (zO9 (u2 4) 4 [.ref (u2 28), .int 0]) (zC9 (zO9 (u2 5) 4 [.ref (u2 27), .int 0]) (zC9 (zO9 (u2 6) 0 [.ref (u2 21), .ref (u2 22), .ref (u2 23), .ref (u2 24), .ref (u2 25), .ref (u2 26), .int 0, .int 1, .int 0, .int 0, .int 0]) (zC9 (zO9 (u2 7) 0 [.ref (u2 15), .ref (u2 16), .ref (u2 17), .ref (u2 18), .ref (u2 19), .ref (u2 20), .int 0, .int 1, .int 0, .int 0, .int 0]) (zC9 (zO9 (u2 8) 0 [.ref (u2 9), .ref (u2 10), .ref (u2 11), .ref (u2 12), .ref (u2 13), .ref (u2 14), .int 0, .int 1, .int 0, .int 0, .int 0]) (zC9 (zO9 q1 6 [.ref (u2 8), .ref (u2 7), .ref (u2 6), .ref (u2 5), .ref (u2 4), .ref (u2 3), .ref (u2 2), .ref (u2 1), .ref (u2 0), .ref (u2 36), .int 0]) (zS9 (zS9 (zS9 (zS9 (zS9 (zS9 (zS9 (zS9 (zS9 (zS9 (zS9 (zS9 (zS9 (zS9 (zS9 (zS9 (zS9 (zS9 (zS9 (zS9 (zS9 (zS9 (zS9 (zS9 (zS9 (zS9 (zS9 (zS9 ([] : va_W) (zR9 cA (u2 9) 6)) (zR9 cA (u2 10) 6)) (zR9 cA (u2 11) 6)) (zR9 cA (u2 12) 6)) (zR9 cA (u2 13) 6)) (zR9 cA (u2 14) 6)) (zR9 cA (u2 15) 6)) (zR9 cA (u2 16) 6)) (zR9 cA (u2 17) 6)) (zR9 cA (u2 18) 6)) (zR9 cA (u2 19) 6)) (zR9 cA (u2 20) 6)) (zR9 cA (u2 21) 6)) (zR9 cA (u2 22) 6)) (zR9 cA (u2 23) 6)) (zR9 cA (u2 24) 6)) (zR9 cA (u2 25) 6)) (zR9 cA (u2 26) 6)) (zR9 cA (u2 27) 96)) (zR9 cA (u2 28) 12)) (zR9 cA (u2 29) 8)) (zR9 cA (u2 30) 8)) (zR9 cA (u2 31) 8)) (zR9 cA (u2 32) 8)) (zR9 cA (u2 33) 8)) (zR9 cA (u2 34) 384)) (zR9 cA (u2 35) 31)) (zR9 cA (u2 36) 6)))))))))))))) := hD
  refine lv_dup hx hb dL_law_11 rfl ?_
  refine zN_call (As := []) (rest := [.ref q3]) (own := RL) hx hb hml hown hts hnw hK hP hD hS hA (c_X10_init dC dI cA ((zC9 (zO9 (u2 0) 3 [.ref (u2 8), .ref (u2 7), .ref (u2 35)]) (zC9 (zO9 (u2 1) 2 [.ref (u2 8), .ref (u2 7), .ref (u2 34)]) (zC9 (zO9 (u2 2) 5 [.ref (u2 8), .ref (u2 7)]) (zC9 (zO9 (u2 3) 1 [.ref (u2 29), .ref (u2 30), .ref (u2 31), .ref (u2 32), .ref (u2 33), .int 0, .int 0]) (zC9 (zO9 (u2 4) 4 [.ref (u2 28), .int 0]) (zC9 (zO9 (u2 5) 4 [.ref (u2 27), .int 0]) (zC9 (zO9 (u2 6) 0 [.ref (u2 21), .ref (u2 22), .ref (u2 23), .ref (u2 24), .ref (u2 25), .ref (u2 26), .int 0, .int 1, .int 0, .int 0, .int 0]) (zC9 (zO9 (u2 7) 0 [.ref (u2 15), .ref (u2 16), .ref (u2 17), .ref (u2 18), .ref (u2 19), .ref (u2 20), .int 0, .int 1, .int 0, .int 0, .int 0]) (zC9 (zO9 (u2 8) 0 [.ref (u2 9), .ref (u2 10), .ref (u2 11), .ref (u2 12), .ref (u2 13), .ref (u2 14), .int 0, .int 1, .int 0, .int 0, .int 0]) (zC9 (zO9 q1 6 [.ref (u2 8), .ref (u2 7), .ref (u2 6), .ref (u2 5), .ref (u2 4), .ref (u2 3), .ref (u2 2), .ref (u2 1), .ref (u2 0), .ref (u2 36), .int 0]) (zS9 (zS9 (zS9 (zS9 (zS9 (zS9 (zS9 (zS9 (zS9 (zS9 (zS9 (zS9 (zS9 (zS9 (zS9 (zS9 (zS9 (zS9 (zS9 (zS9 (zS9 (zS9 (zS9 (zS9 (zS9 (zS9 (zS9 (zS9 ([] : va_W) (zR9 cA (u2 9) 6)) (zR9 cA (u2 10) 6)) (zR9 cA (u2 11) 6)) (zR9 cA (u2 12) 6)) (zR9 cA (u2 13) 6)) (zR9 cA (u2 14) 6)) (zR9 cA (u2 15) 6)) (zR9 cA (u2 16) 6)) (zR9 cA (u2 17) 6)) (zR9 cA (u2 18) 6)) (zR9 cA (u2 19) 6)) (zR9 cA (u2 20) 6)) (zR9 cA (u2 21) 6)) (zR9 cA (u2 22) 6)) (zR9 cA (u2 23) 6)) (zR9 cA (u2 24) 6)) (zR9 cA (u2 25) 6)) (zR9 cA (u2 26) 6)) (zR9 cA (u2 27) 96)) (zR9 cA (u2 28) 12)) (zR9 cA (u2 29) 8)) (zR9 cA (u2 30) 8)) (zR9 cA (u2 31) 8)) (zR9 cA (u2 32) 8)) (zR9 cA (u2 33) 8)) (zR9 cA (u2 34) 384)) (zR9 cA (u2 35) 31)) (zR9 cA (u2 36) 6))))))))))))) q3) l_L_12 n_X10_init rfl rfl rfl ⟨(Nat.le_of_ble_eq_true rfl), (Nat.le_of_ble_eq_true rfl)⟩ ⟨(Nat.le_of_ble_eq_true rfl), (Nat.le_of_ble_eq_true rfl)⟩ dL_law_12 (Nat.le_of_ble_eq_true rfl) hl.1 (fun u4 H locs hP hD hS => ?_)
  have hP : va_P (dC, dI) vwCl ((zC9 (zO9 q3 7 [.ref (u4 0), .ref (u4 1), .ref (u4 2), .ref (u4 3), .ref (u4 4), .ref (u4 5), .ref (u4 6), .int 0, .int 1, .int 0, .int 0, .int 0, .ref (u4 7), .ref (u4 8), .ref (u4 9), .ref (u4 10), .int 0, .int 0, .int 0, .ref (u4 11), .int 0, .int 0, .int 0, .int 0, .ref (u4 12), .int 0, .ref (u4 13), .int 0, .ref (u4 14), .ref (u4 15)]) (zC9 (zO9 (u2 0) 3 [.ref (u2 8), .ref (u2 7), .ref (u2 35)]) (zC9 (zO9 (u2 1) 2 [.ref (u2 8), .ref (u2 7), .ref (u2 34)]) (zC9 (zO9 (u2 2) 5 [.ref (u2 8), .ref (u2 7)]) (zC9 (zO9 (u2 3) 1 [.ref (u2 29), .ref (u2 30), .ref (u2 31), .ref (u2 32), .ref (u2 33), .int 0, .int 0]) (zC9 (zO9 (u2 4) 4 [.ref (u2 28), .int 0]) (zC9 (zO9 (u2 5) 4 [.ref (u2 27), .int 0]) (zC9 (zO9 (u2 6) 0 [.ref (u2 21), .ref (u2 22), .ref (u2 23), .ref (u2 24), .ref (u2 25), .ref (u2 26), .int 0, .int 1, .int 0, .int 0, .int 0]) (zC9 (zO9 (u2 7) 0 [.ref (u2 15), .ref (u2 16), .ref (u2 17), .ref (u2 18), .ref (u2 19), .ref (u2 20), .int 0, .int 1, .int 0, .int 0, .int 0]) (zC9 (zO9 (u2 8) 0 [.ref (u2 9), .ref (u2 10), .ref (u2 11), .ref (u2 12), .ref (u2 13), .ref (u2 14), .int 0, .int 1, .int 0, .int 0, .int 0]) (zC9 (zO9 q1 6 [.ref (u2 8), .ref (u2 7), .ref (u2 6), .ref (u2 5), .ref (u2 4), .ref (u2 3), .ref (u2 2), .ref (u2 1), .ref (u2 0), .ref (u2 36), .int 0]) (zS9 (zS9 (zS9 (zS9 (zS9 (zS9 (zS9 (zS9 (zS9 (zS9 (zS9 (zS9 (zS9 (zS9 (zS9 (zS9 (zS9 (zS9 (zS9 (zS9 (zS9 (zS9 (zS9 (zS9 (zS9 (zS9 (zS9 (zS9 (zS9 (zS9 (zS9 (zS9 (zS9 (zS9 (zS9 (zS9 (zS9 (zS9 (zS9 (zS9 (zS9 (zS9 (zS9 (zS9 ([] : va_W) (zR9 cA (u2 9) 6)) (zR9 cA (u2 10) 6)) (zR9 cA (u2 11) 6)) (zR9 cA (u2 12) 6)) (zR9 cA (u2 13) 6)) (zR9 cA (u2 14) 6)) (zR9 cA (u2 15) 6)) (zR9 cA (u2 16) 6)) (zR9 cA (u2 17) 6)) (zR9 cA (u2 18) 6)) (zR9 cA (u2 19) 6)) (zR9 cA (u2 20) 6)) (zR9 cA (u2 21) 6)) (zR9 cA (u2 22) 6)) (zR9 cA (u2 23) 6)) (zR9 cA (u2 24) 6)) (zR9 cA (u2 25) 6)) (zR9 cA (u2 26) 6)) (zR9 cA (u2 27) 96)) (zR9 cA (u2 28) 12)) (zR9 cA (u2 29) 8)) (zR9 cA (u2 30) 8)) (zR9 cA (u2 31) 8)) (zR9 cA (u2 32) 8)) (zR9 cA (u2 33) 8)) (zR9 cA (u2 34) 384)) (zR9 cA (u2 35) 31)) (zR9 cA (u2 36) 6)) (zR9 cA (u4 0) 7)) (zR9 cA (u4 1) 6)) (zR9 cA (u4 2) 6)) (zR9 cA (u4 3) 6)) (zR9 cA (u4 4) 6)) (zR9 cA (u4 5) 6)) (zR9 cA (u4 6) 6)) (zR9 cA (u4 7) 96)) (zR9 cA (u4 8) 48)) (zR9 cA (u4 9) 48)) (zR9 cA (u4 10) 144)) (zR9 cA (u4 11) 462)) (zR9 cA (u4 12) 200)) (zR9 cA (u4 13) 12)) (zR9 cA (u4 14) 31)) (zR9 cA (u4 15) 6)))))))))))))) H := hP
  have hD : va_D A ((zC9 (zO9 q3 7 [.ref (u4 0), .ref (u4 1), .ref (u4 2), .ref (u4 3), .ref (u4 4), .ref (u4 5), .ref (u4 6), .int 0, .int 1, .int 0, .int 0, .int 0, .ref (u4 7), .ref (u4 8), .ref (u4 9), .ref (u4 10), .int 0, .int 0, .int 0, .ref (u4 11), .int 0, .int 0, .int 0, .int 0, .ref (u4 12), .int 0, .ref (u4 13), .int 0, .ref (u4 14), .ref (u4 15)]) (zC9 (zO9 (u2 0) 3 [.ref (u2 8), .ref (u2 7), .ref (u2 35)]) (zC9 (zO9 (u2 1) 2 [.ref (u2 8), .ref (u2 7), .ref (u2 34)]) (zC9 (zO9 (u2 2) 5 [.ref (u2 8), .ref (u2 7)]) (zC9 (zO9 (u2 3) 1 [.ref (u2 29), .ref (u2 30), .ref (u2 31), .ref (u2 32), .ref (u2 33), .int 0, .int 0]) (zC9 (zO9 (u2 4) 4 [.ref (u2 28), .int 0]) (zC9 (zO9 (u2 5) 4 [.ref (u2 27), .int 0]) (zC9 (zO9 (u2 6) 0 [.ref (u2 21), .ref (u2 22), .ref (u2 23), .ref (u2 24), .ref (u2 25), .ref (u2 26), .int 0, .int 1, .int 0, .int 0, .int 0]) (zC9 (zO9 (u2 7) 0 [.ref (u2 15), .ref (u2 16), .ref (u2 17), .ref (u2 18), .ref (u2 19), .ref (u2 20), .int 0, .int 1, .int 0, .int 0, .int 0]) (zC9 (zO9 (u2 8) 0 [.ref (u2 9), .ref (u2 10), .ref (u2 11), .ref (u2 12), .ref (u2 13), .ref (u2 14), .int 0, .int 1, .int 0, .int 0, .int 0]) (zC9 (zO9 q1 6 [.ref (u2 8), .ref (u2 7), .ref (u2 6), .ref (u2 5), .ref (u2 4), .ref (u2 3), .ref (u2 2), .ref (u2 1), .ref (u2 0), .ref (u2 36), .int 0]) (zS9 (zS9 (zS9 (zS9 (zS9 (zS9 (zS9 (zS9 (zS9 (zS9 (zS9 (zS9 (zS9 (zS9 (zS9 (zS9 (zS9 (zS9 (zS9 (zS9 (zS9 (zS9 (zS9 (zS9 (zS9 (zS9 (zS9 (zS9 (zS9 (zS9 (zS9 (zS9 (zS9 (zS9 (zS9 (zS9 (zS9 (zS9 (zS9 (zS9 (zS9 (zS9 (zS9 (zS9 ([] : va_W) (zR9 cA (u2 9) 6)) (zR9 cA (u2 10) 6)) (zR9 cA (u2 11) 6)) (zR9 cA (u2 12) 6)) (zR9 cA (u2 13) 6)) (zR9 cA (u2 14) 6)) (zR9 cA (u2 15) 6)) (zR9 cA (u2 16) 6)) (zR9 cA (u2 17) 6)) (zR9 cA (u2 18) 6)) (zR9 cA (u2 19) 6)) (zR9 cA (u2 20) 6)) (zR9 cA (u2 21) 6)) (zR9 cA (u2 22) 6)) (zR9 cA (u2 23) 6)) (zR9 cA (u2 24) 6)) (zR9 cA (u2 25) 6)) (zR9 cA (u2 26) 6)) (zR9 cA (u2 27) 96)) (zR9 cA (u2 28) 12)) (zR9 cA (u2 29) 8)) (zR9 cA (u2 30) 8)) (zR9 cA (u2 31) 8)) (zR9 cA (u2 32) 8)) (zR9 cA (u2 33) 8)) (zR9 cA (u2 34) 384)) (zR9 cA (u2 35) 31)) (zR9 cA (u2 36) 6)) (zR9 cA (u4 0) 7)) (zR9 cA (u4 1) 6)) (zR9 cA (u4 2) 6)) (zR9 cA (u4 3) 6)) (zR9 cA (u4 4) 6)) (zR9 cA (u4 5) 6)) (zR9 cA (u4 6) 6)) (zR9 cA (u4 7) 96)) (zR9 cA (u4 8) 48)) (zR9 cA (u4 9) 48)) (zR9 cA (u4 10) 144)) (zR9 cA (u4 11) 462)) (zR9 cA (u4 12) 200)) (zR9 cA (u4 13) 12)) (zR9 cA (u4 14) 31)) (zR9 cA (u4 15) 6)))))))))))))) := hD
  refine lv_astore_n (lv' := [(2, .ref q3), (1, .ref q1), (0, .ref b)]) hx hb dL_law_15 rfl hl (by decide) rfl (fun ls hl => ?_)
  refine lv_iconst (v := 0) hx hb dL_law_16 (by decide) ?_
  refine lv_istore_n (lv' := [(3, .int 0), (2, .ref q3), (1, .ref q1), (0, .ref b)]) hx hb dL_law_17 rfl hl (by decide) rfl (fun ls hl => ?_)
  simp only [zC9, zS9, List.nil_append, List.cons_append, List.append_assoc] at hP hD
  subst hAe
  have hZ : ∀ (k : Nat) (q : Nat × va_E), (zws (fun k : Nat => ([(u2 8), (u2 9), (u2 10), (u2 11), (u2 12), (u2 13), (u2 14), (u2 7), (u2 15), (u2 16), (u2 17), (u2 18), (u2 19), (u2 20), (u2 6), (u2 21), (u2 22), (u2 23), (u2 24), (u2 25), (u2 26), (u2 5), (u2 27), (u2 4), (u2 28), (u2 3), (u2 29), (u2 30), (u2 31), (u2 32), (u2 33), (u2 2), (u2 1), (u2 34), (u2 0), (u2 35), q1, (u2 36), q3, (u4 0), (u4 1), (u4 2), (u4 3), (u4 4), (u4 5), (u4 6), (u4 7), (u4 8), (u4 9), (u4 10), (u4 11), (u4 12), (u4 13), (u4 14), (u4 15)] : List Nat).getD k 0) cA zM0)[k]? = some q → (([(zO9 q3 7 [.ref (u4 0), .ref (u4 1), .ref (u4 2), .ref (u4 3), .ref (u4 4), .ref (u4 5), .ref (u4 6), .int 0, .int 1, .int 0, .int 0, .int 0, .ref (u4 7), .ref (u4 8), .ref (u4 9), .ref (u4 10), .int 0, .int 0, .int 0, .ref (u4 11), .int 0, .int 0, .int 0, .int 0, .ref (u4 12), .int 0, .ref (u4 13), .int 0, .ref (u4 14), .ref (u4 15)]), (zO9 (u2 0) 3 [.ref (u2 8), .ref (u2 7), .ref (u2 35)]), (zO9 (u2 1) 2 [.ref (u2 8), .ref (u2 7), .ref (u2 34)]), (zO9 (u2 2) 5 [.ref (u2 8), .ref (u2 7)]), (zO9 (u2 3) 1 [.ref (u2 29), .ref (u2 30), .ref (u2 31), .ref (u2 32), .ref (u2 33), .int 0, .int 0]), (zO9 (u2 4) 4 [.ref (u2 28), .int 0]), (zO9 (u2 5) 4 [.ref (u2 27), .int 0]), (zO9 (u2 6) 0 [.ref (u2 21), .ref (u2 22), .ref (u2 23), .ref (u2 24), .ref (u2 25), .ref (u2 26), .int 0, .int 1, .int 0, .int 0, .int 0]), (zO9 (u2 7) 0 [.ref (u2 15), .ref (u2 16), .ref (u2 17), .ref (u2 18), .ref (u2 19), .ref (u2 20), .int 0, .int 1, .int 0, .int 0, .int 0]), (zO9 (u2 8) 0 [.ref (u2 9), .ref (u2 10), .ref (u2 11), .ref (u2 12), .ref (u2 13), .ref (u2 14), .int 0, .int 1, .int 0, .int 0, .int 0]), (zO9 q1 6 [.ref (u2 8), .ref (u2 7), .ref (u2 6), .ref (u2 5), .ref (u2 4), .ref (u2 3), .ref (u2 2), .ref (u2 1), .ref (u2 0), .ref (u2 36), .int 0]), (zR9 cA (u2 9) 6), (zR9 cA (u2 10) 6), (zR9 cA (u2 11) 6), (zR9 cA (u2 12) 6), (zR9 cA (u2 13) 6), (zR9 cA (u2 14) 6), (zR9 cA (u2 15) 6), (zR9 cA (u2 16) 6), (zR9 cA (u2 17) 6), (zR9 cA (u2 18) 6), (zR9 cA (u2 19) 6), (zR9 cA (u2 20) 6), (zR9 cA (u2 21) 6), (zR9 cA (u2 22) 6), (zR9 cA (u2 23) 6), (zR9 cA (u2 24) 6), (zR9 cA (u2 25) 6), (zR9 cA (u2 26) 6), (zR9 cA (u2 27) 96), (zR9 cA (u2 28) 12), (zR9 cA (u2 29) 8), (zR9 cA (u2 30) 8), (zR9 cA (u2 31) 8), (zR9 cA (u2 32) 8), (zR9 cA (u2 33) 8), (zR9 cA (u2 34) 384), (zR9 cA (u2 35) 31), (zR9 cA (u2 36) 6), (zR9 cA (u4 0) 7), (zR9 cA (u4 1) 6), (zR9 cA (u4 2) 6), (zR9 cA (u4 3) 6), (zR9 cA (u4 4) 6), (zR9 cA (u4 5) 6), (zR9 cA (u4 6) 6), (zR9 cA (u4 7) 96), (zR9 cA (u4 8) 48), (zR9 cA (u4 9) 48), (zR9 cA (u4 10) 144), (zR9 cA (u4 11) 462), (zR9 cA (u4 12) 200), (zR9 cA (u4 13) 12), (zR9 cA (u4 14) 31), (zR9 cA (u4 15) 6)] : va_W))[zPm k]? = some q := fun k q hq => by
    obtain ⟨e, he, rfl⟩ := zws_of hq
    exact zstart_at k e he
  have hin : ∀ q : Nat, q < zN → ∃ e, zwl[q]? = some e := fun q hq => ⟨zwl[q]'(by rw [zN_len]; exact hq), List.getElem?_eq_getElem _⟩
  have C1 : zLw p s m meth c b L xs (fun k : Nat => ([(u2 8), (u2 9), (u2 10), (u2 11), (u2 12), (u2 13), (u2 14), (u2 7), (u2 15), (u2 16), (u2 17), (u2 18), (u2 19), (u2 20), (u2 6), (u2 21), (u2 22), (u2 23), (u2 24), (u2 25), (u2 26), (u2 5), (u2 27), (u2 4), (u2 28), (u2 3), (u2 29), (u2 30), (u2 31), (u2 32), (u2 33), (u2 2), (u2 1), (u2 34), (u2 0), (u2 35), q1, (u2 36), q3, (u4 0), (u4 1), (u4 2), (u4 3), (u4 4), (u4 5), (u4 6), (u4 7), (u4 8), (u4 9), (u4 10), (u4 11), (u4 12), (u4 13), (u4 14), (u4 15)] : List Nat).getD k 0) dC dI cA 55 1860 := by
    refine ⟨C0, hK, fun i j hi hj hij => ?_, fun q hq => ?_, by decide, by decide⟩
    · obtain ⟨e1, h1⟩ := hin i hi
      obtain ⟨e2, h2⟩ := hin j hj
      exact zPm_inj i j hi hj (hD.1 _ _ _ _ (zstart_at i e1 h1) (zstart_at j e2 h2) hij)
    · obtain ⟨e1, h1⟩ := hin q hq
      exact hD.2 _ _ (zstart_at (cA := cA) q e1 h1)
  exact law_loop hL C1 L 0 (by omega) (by omega) zM0 zM0_inv H locs (fun k q hq => hP _ q (hZ k q hq)) hS ls (lv_sub hl [3, 2, 1, 0] rfl)
set_option maxHeartbeats 4000000 in
theorem lw_walk (l : Launch) (hflags : l.flags = flags0) (b : Addr) (xs : List Int32) : MetFree l x (headSpec (Jvm.Cond.code x code maxLocals ret :: tables_1) room_1) (lw_P b xs) (fun _ _ _ _ _ => True) lw_Q := by
  refine MetFree.of_bodyS (code := code) (maxLocals := maxLocals) (ret := ret) (by decide) ?_ ?_
  · intro args s m h hn
    obtain ⟨meth, c, h1, h2, h3, h4, h5, h6, -, -⟩ := Cond.code_spec hn (atoms_spec (ws := Jvm.Cond.code x code maxLocals ret :: tables_1) h _ List.mem_cons_self)
    exact ⟨meth, c, h1, h2, h3, h4, h5, h6⟩
  · intro p e s m args below meth c s₁ B hml0 hP _
    obtain ⟨rfl, hx, hbd, hgv⟩ := hP
    obtain ⟨scr, harrAt, hlist, hof, hsmall⟩ := hx
    obtain ⟨hcb, hkn, -, -⟩ := State.arrayAt?_spec harrAt
    have hown : s.vm.findClass R_law = some m.cls := findClass_of_methodNamed B.named
    have hts0 : ∀ c ∈ (Jvm.Cond.code x code maxLocals ret :: tables_1), c.before #[Value.ref b] s = true := atoms_spec (ws := Jvm.Cond.code x code maxLocals ret :: tables_1) B.pre
    have hts : ∀ w ∈ lw_tbl, w.before #[Value.ref b] s = true := k2_hts_sels lw_privs (fun w hw => hts0 w (List.mem_cons_of_mem _ hw)) lw_privs_ok
    have hml : c.maxLocals = 4 := B.maxLocals_eq (hts0 _ List.mem_cons_self)
    have X₀ : Stand p l e room_1 s m #[Value.ref b] below meth c s₁ [] 0 0 := Stand.of_body B
    have hh0 : s₁.heap = s.heap := by rw [B.state]; rfl
    have hsz : scr.slots.size = xs.length := by rw [← Array.length_toList, hlist, List.length_map]
    have hval : ∀ j : Nat, j < xs.length → scr.slots[j]? = some (.int (xs.getD j 0)) := fun j hj => by
      rw [← Array.getElem?_toList, hlist]
      simp [hj]
    have hbl : b < s.heap.size := (Array.getElem?_eq_some_iff.mp hcb).1
    have hX : va_X b xs.length (fun j => xs.getD j 0) s s.heap := ⟨scr, hcb, hof, hkn, hsz, hval⟩
    have K : W p l e room_1 s m #[Value.ref b] below meth c s₁.heap [] 0 0 (lw_Z below #[Value.ref b] s) (entryFrame m ([Value.ref b] : List Value).toArray 4) := by
      rw [hh0]
      exact whole_start l hflags hbd ⟨B.exec, B.bytes, B.returns, hml, hown, hts, hX, hbl, B.notSynchronized, hgv⟩
    obtain ⟨t, a1, o, b1, b2, b3⟩ := K s₁ rfl X₀
    exact ⟨t, o, a1, b1, b2, b3⟩
theorem lw_pre_spec {args : Array Value} {s : State} (h : (Jvm.Cond.and given_1 narrow_1).before args s = true) (hr : rest_1_c.before args s = true) : ∃ (b : Addr) (xs : List Int32), lw_P b xs args s := by
  have hs := flat_of_before _ h
  have hq := flat_of_before _ hr
  have hc : (Cond.count 1).before args s = true := hs _ (by decide +kernel)
  have harr : (Cond.arrayOf (.arg 0) .int).before args s = true := hs _ (by decide +kernel)
  have hle : (Cond.le (.length (.arg 0)) (.int 2560)).before args s = true := hs _ (by decide +kernel)
  have hlen : (Cond.isInt (.length (.arg 0))).before args s = true := hq _ (by decide +kernel)
  have hall : (Cond.all (.arg 0) (.isInt (.elem (.arg 0) (.index 0)))).before args s = true := hq _ (by decide +kernel)
  obtain ⟨b, xs, hb, hx⟩ := State.ints_of_pre rfl harr hlen hall
  have hsm : xs.length < 2 ^ 31 := hx.choose_spec.2.2.2
  have hev : (Term.length (.arg 0)).eval args s none [] s = some (.int xs.length.toInt32) := hx.length_eval hb
  have hv := Cond.le_ints hev (show (Term.int 2560).eval args s none [] s = some (.int 2560) from rfl)
  have hd : xs.length.toInt32 ≤ 2560 := by
    simpa [Cond.before, Cond.holds, hv] using hle
  have hN : xs.length ≤ 2560 := (Int32.ofNat_le_ofNat hsm (by decide)).mp (show Int32.ofNat xs.length ≤ Int32.ofNat 2560 from hd)
  exact ⟨b, xs, Cond.one_arg hc (show args[0]? = some (.ref b) from hb), hx, hN, h⟩
theorem lw_comes (l : Launch) (hflags : l.flags = flags0) : Comes l x (Jvm.Cond.code x code maxLocals ret :: tables_1) room_1 (fun tb e args s => Calls_1 tb e args s ∧ rest_1 tb e args s ∧ Pre_1 tb e args s)
    (fun _ _ args s o t => lw_Q args s o t) := by
  intro p e ha hc hk s m args below hf hfit hheap happ hpre
  obtain ⟨b, xs, hP⟩ := lw_pre_spec hpre.2.2 hpre.2.1
  obtain ⟨k, o, h1, h2, h3, hQ⟩ := lw_walk l hflags b xs p e ha hc hk s m args below hf ((Spec.applies_iff_loose hf).mp happ).1 hP trivial
  exact ⟨k, o, h1, h2, h3, hQ⟩
theorem lw_frame {s t : State} {o : Outcome} {args : Array Value} (h : Framed s o t [] 600000 7302250) :
    Framed s o t (fieldLocs frame_1_writes args s ++ arrayLocs frame_1_arrays args s ++ staticLocs frame_1_statics s) 600000 7302250 := h
theorem lw_limb (L : Cond) (hL : ∀ (args : Array Value) (s t : State), L.after args s (.returned (some (.int 1))) t = true) :
    ArmFor flags0 classFile x code maxLocals ret World_1 tables_1 room_1 Calls_1 rest_1 Pre_1
      (fun tb e a s o t => postC L tb e a s o t ∧ Framed s o t (fieldLocs frame_1_writes a s ++ arrayLocs frame_1_arrays a s ++ staticLocs frame_1_statics s) 600000 7302250) := by
  intro l hflags _ _ p e ha hc hk s m args below hf hfit hheap happ hpre
  obtain ⟨k, o, h1, h2, h3, rfl, hF⟩ := lw_comes l hflags p e ha hc hk s m args below hf hfit hheap happ hpre
  exact ⟨k, _, h1, h2, h3, hL args s _, lw_frame hF⟩
theorem i_vc : Claimed_1_1 ∧ Claimed_1_2 := ⟨lw_limb limb_1_1 (fun args s t => by simp [limb_1_1, Cond.after, Cond.holds, Cond.value]), lw_limb limb_1_2 (fun args s t => Cond.after_iff.mpr (by
  first | (rw [show limb_1_2 = Cond.eq .result (.int 1) from rfl, Cond.eq_ints (x := 1) (y := 1) rfl rfl]; simp; done) | (simp [limb_1_2, Cond.value, Term.eval]; done)))⟩

