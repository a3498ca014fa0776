/-! both sides together -/
def zBk (K : zAft) : Nat → zAft → zAft → Prop
  | 0, _, _ => True
  | n + 1, D, A => (zKp K (3 + (n : Int)) (sBA D A) ∧ zOk 999 (sBA D A)) ∧ zBk K n (sBD D) (sBA D A)
def zRl (N M : zMem) : Prop := M 3 = N 0 ∧ M 11 = N 4 ∧ M 15 = N 5 ∧ (∀ i : Int, 0 ≤ i → i < 6 → M 10 0 (i + 1) = N 9 0 i) ∧ zSv (M 14) ∧ M 13 1 0 = N 9 1 0 ∧ (N 9 1 0 = 1 → zKp (M 13) 0 (N 2)) ∧ M 13 1 3 = N 6 5 1 ∧ zBk (M 13) (N 6 5 1).toNat (N 6) (N 0)
def zCl (N M : zMem) : Prop := M 0 = N 0 ∧ M 2 = N 2 ∧ M 4 = N 4 ∧ M 5 = N 5 ∧ M 6 = N 6 ∧ M 9 = N 9
def zInv (M : zMem) : Prop := zIv M ∧ zRl M M
theorem zInv_of {N M : zMem} (hI : zIv N) (hR : zRl N M) (hC : zCl N M) : zInv M := by
  obtain ⟨c0, c2, c4, c5, c6, c9⟩ := hC
  unfold zInv zIv zRl at *
  rw [c0, c2, c4, c5, c6, c9]
  exact ⟨hI, hR⟩
theorem zBk_k {K K' : zAft} : ∀ (n : Nat) (D A : zAft), (∀ (j : Nat) (B : zAft), j < n → zKp K (3 + (j : Int)) B → zKp K' (3 + (j : Int)) B) → zBk K n D A → zBk K' n D A := by
  intro n
  induction n with
  | zero => intro D A _ _; trivial
  | succ n ih => intro D A h hb; exact ⟨⟨h n _ (by omega) hb.1.1, hb.1.2⟩, ih _ _ (fun j B hj => h j B (by omega)) hb.2⟩
theorem zBk_d {K K' : zAft} : ∀ (n : Nat) (D A : zAft), (∀ (j : Nat) (B : zAft), j < n → zKp K (3 + ((j : Int) + 1)) B → zKp K' (3 + (j : Int)) B) → zBk K (n + 1) D A → zBk K' n D A := by
  intro n
  induction n with
  | zero => intro D A _ _; trivial
  | succ n ih =>
    intro D A h hb
    refine ⟨⟨h n _ (by omega) ?_, hb.1.2⟩, ih _ _ (fun j B hj => h j B (by omega)) hb.2⟩
    have := hb.1.1
    rw [show ((n : Int) + 1) = ((n + 1 : Nat) : Int) by omega]
    exact this
/-- the ring agrees on the last n -/
def zDe (n : Nat) (D D2 : zAft) : Prop := D2 5 0 = D 5 0 ∧ ∀ i : Nat, i < n → ∀ r : Nat, r < 5 → D2 r ((D 5 0 + 7 - i) % 8) = D r ((D 5 0 + 7 - i) % 8)
theorem zBk_c {K : zAft} : ∀ (n : Nat) (D D2 A : zAft), n ≤ 8 → 0 ≤ D 5 0 → D 5 0 < 8 → zDe n D D2 → zBk K n D A → zBk K n D2 A := by
  intro n
  induction n with
  | zero => intro D D2 A _ _ _ _ _; trivial
  | succ n ih =>
    intro D D2 A hn h0 h8 hd hb
    have hs : sBn D2 = sBn D := by unfold sBn; rw [hd.1]
    have hr : ∀ r : Nat, r < 5 → D2 r (sBn D) = D r (sBn D) := fun r hr => by
      have := hd.2 0 (by omega) r hr
      rw [show (D 5 0 + 7 - ((0 : Nat) : Int)) % 8 = sBn D by unfold sBn; rw [Int.natCast_zero, Int.sub_zero]] at this
      exact this
    have hA : sBA D2 A = sBA D A := by
      unfold sBA sB1
      rw [hs, hr 0 (by omega), hr 1 (by omega), hr 2 (by omega), hr 3 (by omega), hr 4 (by omega)]
    have e1 : sBD D 5 0 = sBn D := by unfold sBD; rw [zr2 (by decide) rfl, zr0]
    have e2 : sBD D2 5 0 = sBn D := by unfold sBD; rw [zr2 (by decide) rfl, zr0, hs]
    have hb0 : sBn D = (D 5 0 + 7) % 8 := rfl
    refine ⟨by rw [hA]; exact hb.1, ?_⟩
    rw [hA]
    refine ih (sBD D) (sBD D2) _ (by omega) (by rw [e1]; omega) (by rw [e1]; omega) ⟨by rw [e1, e2], fun i hi r hr => ?_⟩ hb.2
    rw [e1]
    have h9 := hd.2 (i + 1) (by omega) r hr
    rw [show (D 5 0 + 7 - ((i + 1 : Nat) : Int)) % 8 = (sBn D + 7 - (i : Int)) % 8 by omega] at h9
    unfold sBD
    rw [zwr_r (by omega), zwr_r (by omega), zwr_r (by omega), zwr_r (by omega)]
    exact h9
theorem zKe.bk {K K' : zAft} {n : Nat} {D A : zAft} (h : zKe 42 K K') (hb : zBk K n D A) : zBk K' n D A := zBk_k n D A (fun j B _ hk => h.kb (by omega) hk) hb
theorem zRl_ey {N X M' : zMem} (hR : zRl N X) (hE : zEy X M') : zRl N M' := by
  obtain ⟨r3, r11, r15, r10, r14, rh, rk, rb, rz⟩ := hR
  obtain ⟨he, hk, hs⟩ := hE
  refine ⟨by rw [he 3 (by decide) (by decide) (by decide) (by decide) (by decide)]; exact r3, by rw [he 11 (by decide) (by decide) (by decide) (by decide) (by decide)]; exact r11, by rw [he 15 (by decide) (by decide) (by decide) (by decide) (by decide)]; exact r15, by rw [he 10 (by decide) (by decide) (by decide) (by decide) (by decide)]; exact r10, hs, by rw [hk.2.1]; exact rh, fun h => hk.k0 (by decide) (rk h), by rw [hk.2.2]; exact rb, hk.bk rz⟩
theorem zRl_no {N X : zMem} (hR : zRl N X) (w : Int) : zRl (zNo N w) (zNy X w) := by
  obtain ⟨r3, r11, r15, r10, r14, rh, rk, rb, rz⟩ := hR
  unfold zRl zNo zNy
  simp only [zs_ne (show (3 : Nat) ≠ 10 by decide), zs_ne (show (0 : Nat) ≠ 9 by decide), zs_ne (show (11 : Nat) ≠ 10 by decide), zs_ne (show (4 : Nat) ≠ 9 by decide), zs_ne (show (15 : Nat) ≠ 10 by decide), zs_ne (show (5 : Nat) ≠ 9 by decide), zs_self, zs_ne (show (14 : Nat) ≠ 10 by decide), zs_ne (show (13 : Nat) ≠ 10 by decide), zs_ne (show (2 : Nat) ≠ 9 by decide), zs_ne (show (6 : Nat) ≠ 9 by decide)]
  refine ⟨r3, r11, r15, fun i h0 h6 => ?_, r14, by rw [zwr_r (by decide)]; exact rh, fun h => rk (by rw [zwr_r (by decide)] at h; exact h), rb, rz⟩
  by_cases e : i = -1 - w
  · rw [show i + 1 = -w by omega, zr0, e, zr0]
    by_cases e2 : 0 ≤ -1 - w ∧ -1 - w < 6
    · rw [← r10 _ e2.1 e2.2, show -1 - w + 1 = -w by omega]
    · omega
  · rw [zr2 (by omega) rfl, zr2 e rfl]; exact r10 i h0 h6
theorem zIv_no {N : zMem} (h : zIv N) (w : Int) : zIv (zNo N w) := by
  obtain ⟨hA, hL, hT, hD, hPi, hR⟩ := h
  unfold zIv zNo
  simp only [zs_ne (show (0 : Nat) ≠ 9 by decide), zs_ne (show (4 : Nat) ≠ 9 by decide), zs_ne (show (5 : Nat) ≠ 9 by decide), zs_self, zs_ne (show (2 : Nat) ≠ 9 by decide), zs_ne (show (6 : Nat) ≠ 9 by decide)]
  exact ⟨hA, hL, hT, hD, hPi, by rw [zwr_r (by decide)]; exact hR⟩
theorem zEx.cl {N M : zMem} (h : zEx N M) : zCl N M := ⟨h 0 (by decide) (by decide) (by decide), h 2 (by decide) (by decide) (by decide), h 4 (by decide) (by decide) (by decide), h 5 (by decide) (by decide) (by decide), h 6 (by decide) (by decide) (by decide), h 9 (by decide) (by decide) (by decide)⟩
/-- the model's modules are as before -/
def zMo (N M : zMem) : Prop := M 3 = N 3 ∧ ∀ m : Nat, 10 ≤ m → M m = N m
theorem zRl_mo {M M1 : zMem} (hR : zRl M M) (h : zMo M M1) : zRl M M1 := by
  obtain ⟨h3, h10⟩ := h
  unfold zRl at hR ⊢
  rw [h3, h10 11 (by decide), h10 15 (by decide), h10 10 (by decide), h10 14 (by decide), h10 13 (by decide)]
  exact hR
theorem zEx.mo {N M : zMem} (h : zEx N M) : zMo N M := ⟨h 3 (by decide) (by decide) (by decide), fun m hm => h m (by omega) (by omega) (by omega)⟩
theorem zEx.mo9 {N M : zMem} {w : Int} (h : zEx (zNo N w) M) : zMo N M := ⟨(h 3 (by decide) (by decide) (by decide)).trans (zs_ne (by decide)), fun m hm => (h m (by omega) (by omega) (by omega)).trans (zs_ne (by omega))⟩
theorem zEy.cl {X M : zMem} (h : zEy X M) : zCl X M := ⟨h.1 0 (by decide) (by decide) (by decide) (by decide) (by decide), h.1 2 (by decide) (by decide) (by decide) (by decide) (by decide), h.1 4 (by decide) (by decide) (by decide) (by decide) (by decide), h.1 5 (by decide) (by decide) (by decide) (by decide) (by decide), h.1 6 (by decide) (by decide) (by decide) (by decide) (by decide), h.1 9 (by decide) (by decide) (by decide) (by decide) (by decide)⟩
theorem zNy_cl (X : zMem) (w : Int) : zCl X (zNy X w) := ⟨zs_ne (by decide), zs_ne (by decide), zs_ne (by decide), zs_ne (by decide), zs_ne (by decide), zs_ne (by decide)⟩
theorem zCl.tr {A B C : zMem} (h : zCl A B) (h2 : zCl B C) : zCl A C := ⟨h2.1.trans h.1, h2.2.1.trans h.2.1, h2.2.2.1.trans h.2.2.1, h2.2.2.2.1.trans h.2.2.2.1, h2.2.2.2.2.1.trans h.2.2.2.2.1, h2.2.2.2.2.2.trans h.2.2.2.2.2⟩
def zPair (T : Value → Prop) (kx km : zMD) (dc dm : Nat) (as bs : List Value) (M : zMem) : Prop := ∃ Qc : Option Value → zMem → Prop, zCt kx dc as M Qc ∧ ∀ r M1, Qc r M1 → ∃ v : Value, T v ∧ r = some v ∧ ∃ Qm : Option Value → zMem → Prop, zCt km dm bs M1 Qm ∧ ∀ r2 M2, Qm r2 M2 → r2 = some v ∧ zInv M2
/-- a method that may change what is: N2 is what the class has behind it, P what the model has -/
theorem zPair_a {T : Value → Prop} {kx km : zMD} {dc dm : Nat} {as bs : List Value} {M N2 : zMem} {w : Int} {vr v : Value} {P : zMem → zMem → Prop} (hI : zInv M) (tr : T vr) (tv : T v) (hc : zCt kx dc as M (zAn w vr v N2 M)) (hN : zMo M N2) (hI2 : w = 0 → zIv N2)
    (hm : ∀ M1, zRl M M1 → zCt km dm bs M1 (zAp w vr v (P M1) M1)) (hP : ∀ M1 M2, zRl M M1 → P M1 M2 → w = 0 → zRl N2 M2 ∧ zCl M1 M2) : zPair T kx km dc dm as bs M := by
  refine ⟨_, hc, fun r M1 h1 => ?_⟩
  rcases h1 with ⟨hw, rfl, hx⟩ | ⟨hw, rfl, hx⟩
  · have hR := zRl_mo hI.2 hx.mo9
    refine ⟨vr, tr, rfl, _, hm M1 hR, fun r2 M2 h2 => ?_⟩
    rcases h2 with ⟨_, rfl, hy⟩ | ⟨h0, _, _⟩
    · exact ⟨rfl, zInv_of (zIv_no hI.1 w) (zRl_ey (zRl_no hR w) hy) ((hx.cl.tr (zNy_cl M1 w)).tr hy.cl)⟩
    · exact absurd h0 hw
  · have hR := zRl_mo hI.2 ⟨hx.mo.1.trans hN.1, fun m h => (hx.mo.2 m h).trans (hN.2 m h)⟩
    refine ⟨v, tv, rfl, _, hm M1 hR, fun r2 M2 h2 => ?_⟩
    rcases h2 with ⟨h0, _, _⟩ | ⟨_, rfl, hp⟩
    · exact absurd hw h0
    · have h3 := hP M1 M2 hR hp hw
      exact ⟨rfl, zInv_of (hI2 hw) h3.1 (hx.cl.tr h3.2)⟩
/-- a method that only asks -/
theorem zPair_q {T : Value → Prop} {kx km : zMD} {dc dm : Nat} {as bs : List Value} {M : zMem} {w : Int} {vr v : Value} (hI : zInv M) (tr : T vr) (tv : T v) (hc : zCt kx dc as M (zAn w vr v M M)) (hm : ∀ M1, zRl M M1 → zCt km dm bs M1 (zAy w vr v M1 M1)) : zPair T kx km dc dm as bs M :=
  zPair_a (P := fun M1 M2 => zEy M1 M2) hI tr tv hc ⟨rfl, fun _ _ => rfl⟩ (fun _ => hI.1) hm (fun _ _ hR hp _ => ⟨zRl_ey hR hp, hp.cl⟩)
theorem zcan {M : zMem} {A : zAft} (h : M 3 = A) : zs (zs (zs M 14 (M 14)) 13 (M 13)) 3 A = M := by rw [← h, zs_id, zs_id, zs_id]
theorem zcanb (b : Nat) {M : zMem} {A B : zAft} (hb : M b = B) (h : M 3 = A) : zs (zs (zs (zs M b B) 14 (M 14)) 13 (M 13)) 3 A = M := by rw [← h, ← hb, zs_id, zs_id, zs_id, zs_id]
def zTi : Value → Prop := fun v => ∃ x : Int32, v = .int x
def zTl8 : Value → Prop := fun v => ∃ x : Int64, v = .long x
theorem zti (x : Int32) : zTi (.int x) := ⟨x, rfl⟩
theorem ztl (x : Int64) : zTl8 (.long x) := ⟨x, rfl⟩
/-- what was kept is what the change takes back -/
theorem zBk_keep {K A K9 D : zAft} {g : Int} (hA : zOk 999 A) (hk : zKb K A K9) (hD : zCh D) (hs : K 1 3 = D 5 1) (hb : zBk K (D 5 1).toNat D A) {A' : zAft} (hu : sBA (sKp D A g) A' = A) : K9 1 3 = sKp D A g 5 1 ∧ zBk K9 (sKp D A g 5 1).toNat (sKp D A g) A' := by
  obtain ⟨hD1, hD2, hD3⟩ := hD
  obtain ⟨k1, k2, k3, k4⟩ := hk
  have e51 : sKp D A g 5 1 = if D 5 1 + 1 ≤ 8 then D 5 1 + 1 else 8 := by unfold sKp; rw [zr0]
  have e50 : sKp D A g 5 0 = (D 5 0 + 1) % 8 := by unfold sKp; rw [zr2 (by decide) rfl, zr0]
  have hsn : sBn (sKp D A g) = D 5 0 := by unfold sBn; rw [e50]; omega
  have h50 : sBD (sKp D A g) 5 0 = D 5 0 := by unfold sBD; rw [zr2 (by decide) rfl, zr0, hsn]
  have hrow : ∀ (r : Nat) (i : Int), r < 5 → i ≠ D 5 0 → sBD (sKp D A g) r i = D r i := by
    intro r i hr hi
    unfold sBD
    rw [zwr_r (by omega), zwr_r (by omega)]
    unfold sKp
    rw [zwr_r (by omega), zwr_r (by omega), zwr_i hi, zwr_i hi]
    unfold sK1
    split
    · rw [zwr_i hi, zwr_i hi, zwr_i hi]
    · rw [zwr_i hi]
  have hde : ∀ n : Nat, n ≤ 7 → zDe n D (sBD (sKp D A g)) := fun n hn => ⟨h50, fun i hi r hr => hrow r _ hr (by omega)⟩
  by_cases h8 : D 5 1 = 8
  · obtain ⟨q1, q2, q3⟩ := k4 (by omega)
    have e8 : sKp D A g 5 1 = 8 := by rw [e51, if_neg (by omega)]
    refine ⟨by rw [q1, e8], ?_⟩
    rw [e8]
    rw [h8] at hb
    refine ⟨by rw [hu]; exact ⟨q2, hA⟩, ?_⟩
    rw [hu]
    refine zBk_c 7 D _ A (by omega) hD1.1 hD1.2 (hde 7 (by omega)) (zBk_d 7 D A (fun j B hj hkp => ?_) hb)
    intro x x0 x1
    rw [q3 _ (by omega) (by omega), ← hkp x x0 x1]
    congr 1; omega
  · obtain ⟨q1, q2, q3⟩ := k3 (by omega)
    have e8 : sKp D A g 5 1 = D 5 1 + 1 := by rw [e51, if_pos (by omega)]
    obtain ⟨n, hn⟩ : ∃ n : Nat, D 5 1 = n := ⟨(D 5 1).toNat, by omega⟩
    refine ⟨by rw [q1, e8, hs], ?_⟩
    rw [e8, hn, show ((n : Int) + 1).toNat = n + 1 by omega]
    rw [hn, Int.toNat_natCast] at hb
    rw [hs, hn] at q2 q3
    refine ⟨by rw [hu]; exact ⟨q2, hA⟩, ?_⟩
    rw [hu]
    refine zBk_c n D _ A (by omega) hD1.1 hD1.2 (hde n (by omega)) (zBk_k n D A (fun j B hj hkp => ?_) hb)
    intro x x0 x1
    rw [q3 _ (by omega) (by omega), ← hkp x x0 x1]
theorem sKp_g {D A : zAft} {g : Int} (h0 : 0 ≤ D 5 0) (h8 : D 5 0 < 8) : sKp D A g 0 (sBn (sKp D A g)) = g ∧ sKp D A g 3 (sBn (sKp D A g)) = A 6 1 ∧ sKp D A g 4 (sBn (sKp D A g)) = A 6 2 ∧ ((0 ≤ g ∧ g < A 6 0) → sKp D A g 1 (sBn (sKp D A g)) = A 3 g ∧ sKp D A g 2 (sBn (sKp D A g)) = A 4 g) := by
  have e50 : sKp D A g 5 0 = (D 5 0 + 1) % 8 := by unfold sKp; rw [zr2 (by decide) rfl, zr0]
  have hsn : sBn (sKp D A g) = D 5 0 := by unfold sBn; rw [e50]; omega
  rw [hsn]
  unfold sKp
  refine ⟨?_, ?_, ?_, fun hg => ⟨?_, ?_⟩⟩
  · rw [zwr_r (by decide), zwr_r (by decide), zwr_r (by decide), zwr_r (by decide)]
    unfold sK1; split
    · rw [zwr_r (by decide), zwr_r (by decide), zr0]
    · rw [zr0]
  · rw [zwr_r (by decide), zwr_r (by decide), zwr_r (by decide), zr0]
  · rw [zwr_r (by decide), zwr_r (by decide), zr0]
  · rw [zwr_r (by decide), zwr_r (by decide), zwr_r (by decide), zwr_r (by decide)]
    unfold sK1; rw [if_pos hg, zwr_r (by decide), zr0]
  · rw [zwr_r (by decide), zwr_r (by decide), zwr_r (by decide), zwr_r (by decide)]
    unfold sK1; rw [if_pos hg, zr0]
theorem zund_6 {D A A' : zAft} (hD : zCh D) (hA' : ∀ r i, (r ≠ 6 ∨ (i ≠ 1 ∧ i ≠ 2)) → A' r i = A r i) : sBA (sKp D A (-1)) A' = A := by
  have h := sKp_g (A := A) (g := -1) hD.1.1 hD.1.2
  unfold sBA sB1
  rw [h.1, h.2.1, h.2.2.1, if_neg (by omega)]
  funext r i
  unfold zwr
  by_cases e2 : r = 6 ∧ i = 2
  · rw [if_pos e2, e2.1, e2.2]
  · rw [if_neg e2]
    by_cases e1 : r = 6 ∧ i = 1
    · rw [if_pos e1, e1.1, e1.2]
    · rw [if_neg e1]; exact hA' r i (by omega)
theorem zund_g {D A A' : zAft} {g : Int} (hD : zCh D) (hg : 0 ≤ g ∧ g < A 6 0) (h60 : A' 6 0 = A 6 0) (hA' : ∀ r i, ¬ (r = 3 ∧ i = g) → ¬ (r = 4 ∧ i = g) → A' r i = A r i) : sBA (sKp D A g) A' = A := by
  have h := sKp_g (A := A) (g := g) hD.1.1 hD.1.2
  unfold sBA sB1
  rw [h.1, h.2.1, h.2.2.1, (h.2.2.2 hg).1, (h.2.2.2 hg).2, if_pos (by rw [h60]; exact hg)]
  funext r i
  unfold zwr
  by_cases e2 : r = 6 ∧ i = 2
  · rw [if_pos e2, e2.1, e2.2]
  · rw [if_neg e2]
    by_cases e1 : r = 6 ∧ i = 1
    · rw [if_pos e1, e1.1, e1.2]
    · rw [if_neg e1]
      by_cases e4 : r = 4 ∧ i = g
      · rw [if_pos e4, e4.1, e4.2]
      · rw [if_neg e4]
        by_cases e3 : r = 3 ∧ i = g
        · rw [if_pos e3, e3.1, e3.2]
        · rw [if_neg e3]; exact hA' r i e3 e4
theorem sKp_ch {D A : zAft} {g : Int} (hD : zCh D) (g0 : -1 ≤ g) (g1 : g < 6) : zCh (sKp D A g) := by
  obtain ⟨h1, h2, h3⟩ := hD
  have e51 : sKp D A g 5 1 = if D 5 1 + 1 ≤ 8 then D 5 1 + 1 else 8 := by unfold sKp; rw [zr0]
  have e50 : sKp D A g 5 0 = (D 5 0 + 1) % 8 := by unfold sKp; rw [zr2 (by decide) rfl, zr0]
  refine ⟨by rw [e50]; omega, by rw [e51]; split <;> omega, fun i i0 i8 => ?_⟩
  have e0 : sKp D A g 0 i = if i = D 5 0 then g else D 0 i := by
    unfold sKp
    rw [zwr_r (by decide), zwr_r (by decide), zwr_r (by decide), zwr_r (by decide)]
    unfold sK1
    by_cases e : i = D 5 0
    · rw [if_pos e, e]
      split
      · rw [zwr_r (by decide), zwr_r (by decide), zr0]
      · rw [zr0]
    · rw [if_neg e]
      split
      · rw [zwr_r (by decide), zwr_r (by decide), zwr_i e]
      · rw [zwr_i e]
  rw [e0]; split
  · omega
  · exact h3 i i0 i8
