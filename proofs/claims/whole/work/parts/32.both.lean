theorem p_guestOf {M : zMem} (hI : zInv M) {x : Int} (h_x : zR x) {w : Int} (h_w : zR w) : zPair zTi kX9_guestOf kX10_guestOf 2 1 [.ref 36, .int (zii x), .int (zii w)] [.ref 38, .int (zii x), .int (zii w)] M :=
  zPair_q hI (zti _) (zti _) (c_X9_guestOf hI.1 h_x h_w) (fun M1 hR => by
    have h := c_X10_guestOf (M := M1) (N := M) (S := M1 14) (K := M1 13) hI.1.1 hR.2.2.2.2.1 h_x h_w
    rw [zcan hR.1] at h
    exact h)
theorem p_behind {M : zMem} (hI : zInv M) {x : Int} (h_x : zR x) {n : Int} (h_n : zR n) {w : Int} (h_w : zR w) : zPair zTi kX9_behind kX10_behind 7 5 [.ref 36, .int (zii x), .int (zii n), .int (zii w)] [.ref 38, .int (zii x), .int (zii n), .int (zii w)] M :=
  zPair_q hI (zti _) (zti _) (c_X9_behind hI.1 h_x h_n h_w) (fun M1 hR => by
    have h := c_X10_behind (M := M1) (N := M) (S := M1 14) (K := M1 13) hI.1.1 hR.2.2.2.2.1 h_x h_n h_w
    rw [zcan hR.1] at h
    exact h)
theorem p_all {M : zMem} (hI : zInv M) {n : Int} (h_n : zR n) {w : Int} (h_w : zR w) : zPair zTi kX9_all kX10_all 7 5 [.ref 36, .int (zii n), .int (zii w)] [.ref 38, .int (zii n), .int (zii w)] M :=
  zPair_q hI (zti _) (zti _) (c_X9_all hI.1 h_n h_w) (fun M1 hR => by
    have h := c_X10_all (M := M1) (N := M) (S := M1 14) (K := M1 13) hI.1.1 hR.2.2.2.2.1 h_n h_w
    rw [zcan hR.1] at h
    exact h)
theorem p_leaves {M : zMem} (hI : zInv M) {x : Int} (h_x : zR x) : zPair zTi kX9_leaves kX10_leaves 6 5 [.ref 36, .int (zii x)] [.ref 38, .int (zii x)] M :=
  zPair_q hI (zti _) (zti _) (c_X9_leaves hI.1 h_x) (fun M1 hR => by
    have h := c_X10_leaves (M := M1) (N := M) (S := M1 14) (K := M1 13) hI.1.1 hR.2.2.2.2.1 h_x
    rw [zcan hR.1] at h
    exact h)
theorem p_gone {M : zMem} (hI : zInv M) {w : Int} (h_w : zR w) : zPair zTi kX9_gone kX10_gone 6 5 [.ref 36, .int (zii w)] [.ref 38, .int (zii w)] M :=
  zPair_q hI (zti _) (zti _) (c_X9_gone hI.1 h_w) (fun M1 hR => by
    have h := c_X10_gone (M := M1) (N := M) (S := M1 14) (K := M1 13) hI.1.1 hR.2.2.2.2.1 h_w
    rw [zcan hR.1] at h
    exact h)
theorem p_tastes {M : zMem} (hI : zInv M) {x : Int} (h_x : zR x) : zPair zTi kX9_tastes kX10_tastes 5 5 [.ref 36, .int (zii x)] [.ref 38, .int (zii x)] M :=
  zPair_q hI (zti _) (zti _) (c_X9_tastes hI.1 h_x) (fun M1 hR => by
    have h := c_X10_tastes (M := M1) (N := M) (S := M1 14) (K := M1 13) hI.1.1 hR.2.2.2.2.1 h_x
    rw [zcan hR.1] at h
    exact h)
theorem p_thirsty {M : zMem} (hI : zInv M) {w : Int} (h_w : zR w) : zPair zTi kX9_thirsty kX10_thirsty 7 5 [.ref 36, .int (zii w)] [.ref 38, .int (zii w)] M :=
  zPair_q hI (zti _) (zti _) (c_X9_thirsty hI.1 h_w) (fun M1 hR => by
    have h := c_X10_thirsty (M := M1) (N := M) (S := M1 14) (K := M1 13) hI.1.1 hR.2.2.2.2.1 h_w
    rw [zcan hR.1] at h
    exact h)
theorem p_cupsWanted {M : zMem} (hI : zInv M) {n : Int} (h_n : zR n) : zPair zTi kX9_cupsWanted kX10_cupsWanted 6 5 [.ref 36, .int (zii n)] [.ref 38, .int (zii n)] M :=
  zPair_q hI (zti _) (zti _) (c_X9_cupsWanted hI.1 h_n) (fun M1 hR => by
    have h := c_X10_cupsWanted (M := M1) (N := M) (S := M1 14) (K := M1 13) hI.1.1 hR.2.2.2.2.1 h_n
    rw [zcan hR.1] at h
    exact h)
theorem p_bestRule {M : zMem} (hI : zInv M) {w : Int} (h_w : zR w) : zPair zTi kX9_bestRule kX10_bestRule 6 6 [.ref 36, .int (zii w)] [.ref 38, .int (zii w)] M :=
  zPair_q hI (zti _) (zti _) (c_X9_bestRule hI.1 h_w) (fun M1 hR => by
    have h := c_X10_bestRule (M := M1) (N := M) (S := M1 14) (K := M1 13) hI.1.1 hR.2.2.2.2.1 h_w
    rw [zcan hR.1] at h
    exact h)
theorem p_rising {M : zMem} (hI : zInv M) {w : Int} (h_w : zR w) : zPair zTi kX9_rising kX10_rising 6 6 [.ref 36, .int (zii w)] [.ref 38, .int (zii w)] M :=
  zPair_q hI (zti _) (zti _) (c_X9_rising hI.1 h_w) (fun M1 hR => by
    have h := c_X10_rising (M := M1) (N := M) (S := M1 14) (K := M1 13) hI.1.1 hR.2.2.2.2.1 h_w
    rw [zcan hR.1] at h
    exact h)
theorem p_bestRise {M : zMem} (hI : zInv M) {x : Int} (h_x : zR x) {w : Int} (h_w : zR w) : zPair zTi kX9_bestRise kX10_bestRise 6 5 [.ref 36, .int (zii x), .int (zii w)] [.ref 38, .int (zii x), .int (zii w)] M :=
  zPair_q hI (zti _) (zti _) (c_X9_bestRise hI.1 h_x h_w) (fun M1 hR => by
    have h := c_X10_bestRise (M := M1) (N := M) (S := M1 14) (K := M1 13) hI.1.1 hR.2.2.2.2.1 h_x h_w
    rw [zcan hR.1] at h
    exact h)
theorem p_two {M : zMem} (hI : zInv M) {x : Int} (h_x : zR x) {y : Int} (h_y : zR y) : zPair zTi kX9_two kX10_two 6 7 [.ref 36, .int (zii x), .int (zii y)] [.ref 38, .int (zii x), .int (zii y)] M :=
  zPair_q hI (zti _) (zti _) (c_X9_two hI.1 h_x h_y) (fun M1 hR => by
    have h := c_X10_two (M := M1) (N := M) (S := M1 14) (K := M1 13) hI.1.1 hR.2.2.2.2.1 h_x h_y
    rw [zcan hR.1] at h
    exact h)
theorem p_rest {M : zMem} (hI : zInv M) {w : Int} (h_w : zR w) : zPair zTi kX9_rest kX10_rest 6 8 [.ref 36, .int (zii w)] [.ref 38, .int (zii w)] M :=
  zPair_q hI (zti _) (zti _) (c_X9_rest hI.1 h_w) (fun M1 hR => by
    have h := c_X10_rest (M := M1) (N := M) (S := M1 14) (K := M1 13) hI.1.1 hR.2.2.2.2.1 h_w
    rw [zcan hR.1] at h
    exact h)
theorem p_garden {M : zMem} (hI : zInv M) {x : Int} (h_x : zR x) : zPair zTi kX9_garden kX10_garden 7 5 [.ref 36, .int (zii x)] [.ref 38, .int (zii x)] M :=
  zPair_q hI (zti _) (zti _) (c_X9_garden hI.1 h_x) (fun M1 hR => by
    have h := c_X10_garden (M := M1) (N := M) (S := M1 14) (K := M1 13) hI.1.1 hR.2.2.2.2.1 h_x
    rw [zcan hR.1] at h
    exact h)
theorem p_served {M : zMem} (hI : zInv M) {x : Int} (h_x : zR x) : zPair zTi kX9_served kX10_served 4 6 [.ref 36, .int (zii x)] [.ref 38, .int (zii x)] M :=
  zPair_q hI (zti _) (zti _) (c_X9_served hI.1 h_x) (fun M1 hR => by
    have h := c_X10_served (M := M1) (N := M) (S := M1 14) (K := M1 13) hI.1.1 hR.2.2.2.2.1 h_x
    rw [zcan hR.1] at h
    exact h)
theorem p_away {M : zMem} (hI : zInv M) {x : Int} (h_x : zR x) {n : Int} (h_n : zR n) {y : Int} (h_y : zR y) {w : Int} (h_w : zR w) : zPair zTl8 kX9_away kX10_away 6 4 [.ref 36, .int (zii x), .int (zii n), .int (zii y), .int (zii w)] [.ref 38, .int (zii x), .int (zii n), .int (zii y), .int (zii w)] M :=
  zPair_q hI (ztl _) (ztl _) (c_X9_away hI.1 h_x h_n h_y h_w) (fun M1 hR => by
    have h := c_X10_away (M := M1) (N := M) (S := M1 14) (K := M1 13) hI.1.1 hR.2.2.2.2.1 h_x h_n h_y h_w
    rw [zcan hR.1] at h
    exact h)
theorem p_crowd {M : zMem} (hI : zInv M) {n : Int} (h_n : zR n) {w : Int} (h_w : zR w) : zPair zTi kX9_crowd kX10_crowd 5 4 [.ref 36, .int (zii n), .int (zii w)] [.ref 38, .int (zii n), .int (zii w)] M :=
  zPair_q hI (zti _) (zti _) (c_X9_crowd hI.1 h_n h_w) (fun M1 hR => by
    have h := c_X10_crowd (M := M1) (N := M) (S := M1 14) (K := M1 13) hI.1.1 hR.2.2.2.2.1 h_n h_w
    rw [zcan hR.1] at h
    exact h)
theorem p_caller {M : zMem} (hI : zInv M) {w : Int} (h_w : zR w) : zPair zTi kX9_caller kX10_caller 6 6 [.ref 36, .int (zii w)] [.ref 38, .int (zii w)] M :=
  zPair_q hI (zti _) (zti _) (c_X9_caller hI.1 h_w) (fun M1 hR => by
    have h := c_X10_caller (M := M1) (N := M) (S := M1 14) (K := M1 13) hI.1.1 hR.2.2.2.2.1 h_w
    rw [zcan hR.1] at h
    exact h)
theorem p_stuck {M : zMem} (hI : zInv M) : zPair zTi kX9_stuck kX10_stuck 7 5 [.ref 36] [.ref 38] M :=
  zPair_q hI (zti _) (zti _) (c_X9_stuck hI.1) (fun M1 hR => by
    have h := c_X10_stuck (M := M1) (N := M) (S := M1 14) (K := M1 13) hI.1.1 hR.2.2.2.2.1
    rw [zcan hR.1] at h
    exact h)
theorem p_leaver {M : zMem} (hI : zInv M) {x : Int} (h_x : zR x) : zPair zTi kX9_leaver kX10_leaver 5 4 [.ref 36, .int (zii x)] [.ref 38, .int (zii x)] M :=
  zPair_q hI (zti _) (zti _) (c_X9_leaver hI.1 h_x) (fun M1 hR => by
    have h := c_X10_leaver (M := M1) (N := M) (S := M1 14) (K := M1 13) hI.1.1 hR.2.2.2.2.1 h_x
    rw [zcan hR.1] at h
    exact h)
theorem p_waited {M : zMem} (hI : zInv M) {n : Int} (h_n : zR n) {w : Int} (h_w : zR w) : zPair zTi kX9_waited kX10_waited 5 4 [.ref 36, .int (zii n), .int (zii w)] [.ref 38, .int (zii n), .int (zii w)] M :=
  zPair_q hI (zti _) (zti _) (c_X9_waited hI.1 h_n h_w) (fun M1 hR => by
    have h := c_X10_waited (M := M1) (N := M) (S := M1 14) (K := M1 13) hI.1.1 hR.2.2.2.2.1 h_n h_w
    rw [zcan hR.1] at h
    exact h)
theorem p_bestOf {M : zMem} (hI : zInv M) {x : Int} (h_x : zR x) {w : Int} (h_w : zR w) : zPair zTi kX9_bestOf kX10_bestOf 6 6 [.ref 36, .int (zii x), .int (zii w)] [.ref 38, .int (zii x), .int (zii w)] M :=
  zPair_q hI (zti _) (zti _) (c_X9_bestOf hI.1 h_x h_w) (fun M1 hR => by
    have h := c_X10_bestOf (M := M1) (N := M) (S := M1 14) (K := M1 13) hI.1.1 hR.2.2.2.2.1 h_x h_w
    rw [zcan hR.1] at h
    exact h)
theorem p_kept {M : zMem} (hI : zInv M) {x : Int} (h_x : zR x) : zPair zTi kX9_kept kX10_kept 7 5 [.ref 36, .int (zii x)] [.ref 38, .int (zii x)] M :=
  zPair_q hI (zti _) (zti _) (c_X9_kept hI.1 h_x) (fun M1 hR => by
    have h := c_X10_kept (M := M1) (N := M) (S := M1 14) (K := M1 13) hI.1.1 hR.2.2.2.2.1 h_x
    rw [zcan hR.1] at h
    exact h)
theorem p_dry {M : zMem} (hI : zInv M) {n : Int} (h_n : zR n) : zPair zTi kX9_dry kX10_dry 7 5 [.ref 36, .int (zii n)] [.ref 38, .int (zii n)] M :=
  zPair_q hI (zti _) (zti _) (c_X9_dry hI.1 h_n) (fun M1 hR => by
    have h := c_X10_dry (M := M1) (N := M) (S := M1 14) (K := M1 13) hI.1.1 hR.2.2.2.2.1 h_n
    rw [zcan hR.1] at h
    exact h)
theorem p_company {M : zMem} (hI : zInv M) {x : Int} (h_x : zR x) {y : Int} (h_y : zR y) {n : Int} (h_n : zR n) : zPair zTi kX9_company kX10_company 5 4 [.ref 36, .int (zii x), .int (zii y), .int (zii n)] [.ref 38, .int (zii x), .int (zii y), .int (zii n)] M :=
  zPair_q hI (zti _) (zti _) (c_X9_company hI.1 h_x h_y h_n) (fun M1 hR => by
    have h := c_X10_company (M := M1) (N := M) (S := M1 14) (K := M1 13) hI.1.1 hR.2.2.2.2.1 h_x h_y h_n
    rw [zcan hR.1] at h
    exact h)
theorem p_mean {M : zMem} (hI : zInv M) {w : Int} (h_w : zR w) : zPair zTl8 kX9_mean kX10_mean 7 5 [.ref 36, .int (zii w)] [.ref 38, .int (zii w)] M :=
  zPair_q hI (ztl _) (ztl _) (c_X9_mean hI.1 h_w) (fun M1 hR => by
    have h := c_X10_mean (M := M1) (N := M) (S := M1 14) (K := M1 13) hI.1.1 hR.2.2.2.2.1 h_w
    rw [zcan hR.1] at h
    exact h)
theorem p_hostess {M : zMem} (hI : zInv M) {n : Int} (h_n : zR n) : zPair zTi kX9_hostess kX10_hostess 6 6 [.ref 36, .int (zii n)] [.ref 38, .int (zii n)] M :=
  zPair_q hI (zti _) (zti _) (c_X9_hostess hI.1 h_n) (fun M1 hR => by
    have h := c_X10_hostess (M := M1) (N := M) (S := M1 14) (K := M1 13) hI.1.1 hR.2.2.2.2.1 h_n
    rw [zcan hR.1] at h
    exact h)
theorem p_lots {M : zMem} (hI : zInv M) {n : Int} (h_n : zR n) {z : Int} (h_z : zR z) {w : Int} (h_w : zR w) : zPair zTi kX9_lots kX10_lots 6 5 [.ref 36, .int (zii n), .int (zii z), .int (zii w)] [.ref 38, .int (zii n), .int (zii z), .int (zii w)] M :=
  zPair_q hI (zti _) (zti _) (c_X9_lots hI.1 h_n h_z h_w) (fun M1 hR => by
    have h := c_X10_lots (M := M1) (N := M) (S := M1 14) (K := M1 13) hI.1.1 hR.2.2.2.2.1 h_n h_z h_w
    rw [zcan hR.1] at h
    exact h)
theorem p_look {M : zMem} (hI : zInv M) {x : Int} (h_x : zR x) {w : Int} (h_w : zR w) : zPair zTi kX9_look kX10_look 6 4 [.ref 36, .int (zii x), .int (zii w)] [.ref 38, .int (zii x), .int (zii w)] M :=
  zPair_q hI (zti _) (zti _) (c_X9_look hI.1 h_x h_w) (fun M1 hR => by
    have h := c_X10_look (M := M1) (N := M) (S := M1 14) (K := M1 13) (W := M1 16) hI.1.1 hR.2.2.2.2.1 h_x h_w
    rw [zcanb 16 rfl hR.1] at h
    exact h)
theorem p_longest {M : zMem} (hI : zInv M) {n : Int} (h_n : zR n) {w : Int} (h_w : zR w) : zPair zTi kX9_longest kX10_longest 6 4 [.ref 36, .int (zii n), .int (zii w)] [.ref 38, .int (zii n), .int (zii w)] M :=
  zPair_q hI (zti _) (zti _) (c_X9_longest hI.1 h_n h_w) (fun M1 hR => by
    have h := c_X10_longest (M := M1) (N := M) (S := M1 14) (K := M1 13) (W := M1 17) hI.1.1 hR.2.2.2.2.1 h_n h_w
    rw [zcanb 17 rfl hR.1] at h
    exact h)
theorem p_who {M : zMem} (hI : zInv M) {x : Int} (h_x : zR x) {w : Int} (h_w : zR w) : zPair zTi kX9_who kX10_who 6 6 [.ref 36, .int (zii x), .int (zii w)] [.ref 38, .int (zii x), .int (zii w)] M :=
  zPair_q hI (zti _) (zti _) (c_X9_who hI.1 h_x h_w) (fun M1 hR => by
    have h := c_X10_who (M := M1) (N := M) (S := M1 14) (K := M1 13) hI.1.1 hR.2.2.2.2.1 h_x h_w hI.1.2.2.1
    rw [zcanb 15 hR.2.2.1 hR.1] at h
    exact h)
theorem zcanx {b : Nat} (h14 : (14 : Nat) ≠ b) (h13 : (13 : Nat) ≠ b) (h3 : (3 : Nat) ≠ b) {M : zMem} {A B : zAft} (h : M 3 = A) : zs (zs (zs (zs M b B) 14 (M 14)) 13 (M 13)) 3 A = zs M b B := by
  have e14 : (zs M b B) 14 = M 14 := zs_ne h14
  have e13 : (zs M b B) 13 = M 13 := zs_ne h13
  have e3 : (zs M b B) 3 = A := (zs_ne h3).trans h
  rw [← e14, ← e13, ← e3, zs_id, zs_id, zs_id]
theorem zRl_15 {N X : zMem} {T : zAft} (hR : zRl N X) : zRl (zs N 5 T) (zs X 15 T) := by
  obtain ⟨r3, r11, r15, r10, r14, rh, rk, rb, rz⟩ := hR
  exact ⟨r3, r11, by rw [zs_self, zs_self], r10, r14, rh, rk, rb, rz⟩
theorem zRl_11 {N X : zMem} {T : zAft} (hR : zRl N X) : zRl (zs N 4 T) (zs X 11 T) := by
  obtain ⟨r3, r11, r15, r10, r14, rh, rk, rb, rz⟩ := hR
  exact ⟨r3, by rw [zs_self, zs_self], r15, r10, r14, rh, rk, rb, rz⟩
theorem zMo_s {M : zMem} {m : Nat} {A : zAft} (h3 : (3 : Nat) ≠ m) (hm : m < 10) : zMo M (zs M m A) := ⟨zs_ne h3, fun q hq => zs_ne (by omega)⟩
theorem zMo_tr {A B C : zMem} (h : zMo A B) (h2 : zMo B C) : zMo A C := ⟨h2.1.trans h.1, fun m hm => (h2.2 m hm).trans (h.2 m hm)⟩
theorem zCl_s {M : zMem} {m : Nat} {A : zAft} (hm : 10 ≤ m) : zCl M (zs M m A) := ⟨zs_ne (by omega), zs_ne (by omega), zs_ne (by omega), zs_ne (by omega), zs_ne (by omega), zs_ne (by omega)⟩
theorem zCl_3 {M : zMem} {A : zAft} : zCl M (zs M 3 A) := ⟨zs_ne (by decide), zs_ne (by decide), zs_ne (by decide), zs_ne (by decide), zs_ne (by decide), zs_ne (by decide)⟩
theorem zcl3 {M : zMem} {S K A : zAft} : zCl M (zs (zs (zs M 14 S) 13 K) 3 A) := ((zCl_s (by decide)).tr (zCl_s (by decide))).tr zCl_3
theorem zRl_mk {N M1 N2 : zMem} {S9 K9 A9 : zAft} (hR : zRl N M1) (h0 : N2 0 = A9) (h4 : N2 4 = N 4) (h5 : N2 5 = N 5) (h9 : ∀ i, N2 9 0 i = N 9 0 i) (hS : zSv S9) (hi : K9 1 0 = N2 9 1 0) (hk : N2 9 1 0 = 1 → zKp K9 0 (N2 2)) (hb : K9 1 3 = N2 6 5 1) (hz : zBk K9 (N2 6 5 1).toNat (N2 6) A9) : zRl N2 (zs (zs (zs M1 14 S9) 13 K9) 3 A9) := by
  obtain ⟨r3, r11, r15, r10, r14, rh, rk, rb, rz⟩ := hR
  unfold zRl
  rw [zs_self, h4, h5, h0]
  refine ⟨rfl, r11, r15, fun i i0 i6 => by rw [h9]; exact r10 i i0 i6, hS, hi, hk, hb, hz⟩
theorem zCh_0 {D : zAft} (h : zCh D) : zCh (zwr D 5 1 0) := by
  obtain ⟨h1, h2, h3⟩ := h
  exact ⟨by rw [zwr_i (by decide)]; exact h1, by rw [zr0]; omega, fun i i0 i8 => by rw [zwr_r (by decide)]; exact h3 i i0 i8⟩
theorem p_guest {M : zMem} (hI : zInv M) {x : Int} (h_x : zR x) {y : Int} (h_y : zR y) {z : Int} (h_z : zR z) : zPair zTi kX9_guest kX10_guest 2 1 [.ref 36, .int (zii x), .int (zii y), .int (zii z)] [.ref 38, .int (zii x), .int (zii y), .int (zii z)] M := by
  refine zPair_a (P := fun M1 M2 => M2 = (zs (zs (zs M1 14 (M1 14)) 13 (zwr (M1 13) 1 3 0)) 3 (sCome (M 0) x y z))) hI (zti _) (zti _) (c_X9_guest hI.1 h_x h_y h_z) (by unfold m_guest; exact zMo_tr (zMo_s (by decide) (by decide)) (zMo_s (by decide) (by decide))) (fun hw => ?_) (fun M1 hR => ?_) (fun M1 M2 hR hp hw => ?_)
  · obtain ⟨hA, hL, hT, hD, hPi, hR1⟩ := hI.1
    unfold m_guest
    exact ⟨sComeY_ok hA (by unfold w_guest at hw; exact hw), hL, hT, zCh_0 hD, hPi, hR1⟩
  · have h := c_X10_guest (M := M1) (N := M) (S := M1 14) (K := M1 13) hI.1.1 hR.2.2.2.2.1 h_x h_y h_z
    rw [zcan hR.1] at h
    exact h
  · unfold m_guest
    subst hp
    exact ⟨zRl_mk hR rfl rfl rfl (fun _ => rfl) hR.2.2.2.2.1 (by rw [zwr_i (by decide)]; exact hR.2.2.2.2.2.1) (fun h => zKp_w (hR.2.2.2.2.2.2.1 h)) (by rw [zr0]; exact (show (0 : Int) = zwr (M 6) 5 1 0 5 1 from zr0.symm)) (by show zBk _ (zwr (M 6) 5 1 0 5 1).toNat _ _; rw [zr0]; trivial), zcl3⟩
theorem p_minutes {M : zMem} (hI : zInv M) {n : Int} (h_n : zR n) : zPair zTi kX9_minutes kX10_minutes 5 5 [.ref 36, .int (zii n)] [.ref 38, .int (zii n)] M := by
  refine zPair_a (P := fun M1 M2 => ∃ S9, zSv S9 ∧ M2 = (zs (zs (zs M1 14 S9) 13 (zwr (M1 13) 1 3 0)) 3 (sRun (M 0) n.toNat))) hI (zti _) (zti _) (c_X9_minutes hI.1 h_n) (by unfold m_minutes; exact zMo_tr (zMo_s (by decide) (by decide)) (zMo_s (by decide) (by decide))) (fun hw => ?_) (fun M1 hR => ?_) (fun M1 M2 hR hp hw => ?_)
  · obtain ⟨hA, hL, hT, hD, hPi, hR1⟩ := hI.1
    unfold m_minutes
    exact ⟨sPass_ok hA (by unfold w_minutes at hw; exact hw), hL, hT, zCh_0 hD, hPi, hR1⟩
  · have h := c_X10_minutes (M := M1) (N := M) (S := M1 14) (K := M1 13) hI.1.1 hR.2.2.2.2.1 h_n
    rw [zcan hR.1] at h
    exact h
  · obtain ⟨S9, hS9, hp⟩ := hp
    unfold m_minutes
    subst hp
    exact ⟨zRl_mk hR rfl rfl rfl (fun _ => rfl) hS9 (by rw [zwr_i (by decide)]; exact hR.2.2.2.2.2.1) (fun h => zKp_w (hR.2.2.2.2.2.2.1 h)) (by rw [zr0]; exact (show (0 : Int) = zwr (M 6) 5 1 0 5 1 from zr0.symm)) (by show zBk _ (zwr (M 6) 5 1 0 5 1).toNat _ _; rw [zr0]; trivial), zcl3⟩
theorem p_rises {M : zMem} (hI : zInv M) {x : Int} (h_x : zR x) : zPair zTi kX9_rises kX10_rises 2 3 [.ref 36, .int (zii x)] [.ref 38, .int (zii x)] M := by
  refine zPair_a (P := fun M1 M2 => ∃ K9, zKb (M1 13) (M 0) K9 ∧ M2 = (zs (zs (zs M1 14 (M1 14)) 13 K9) 3 (sRise (M 0) x))) hI (zti _) (zti _) (c_X9_rises hI.1 h_x) (by unfold m_rises; exact zMo_tr (zMo_s (by decide) (by decide)) (zMo_s (by decide) (by decide))) (fun hw => ?_) (fun M1 hR => ?_) (fun M1 M2 hR hp hw => ?_)
  · obtain ⟨hA, hL, hT, hD, hPi, hR1⟩ := hI.1
    have h6 := hA.1
    unfold zH at h6
    have hy : sY_rise (M 0) x = 0 := by unfold w_rises at hw; exact hw
    have hgr : 0 ≤ x ∧ x < M 0 6 0 := by
      unfold sY_rise at hy
      split at hy <;> omega
    unfold m_rises
    exact ⟨sRise0_ok hA hy, hL, hT, sKp_ch hD (by omega) (by omega), hPi, hR1⟩
  · have h := c_X10_rises (M := M1) (N := M) (S := M1 14) (K := M1 13) hI.1.1 hR.2.2.2.2.1 h_x (by rw [hR.2.2.2.2.2.2.2.1]; exact hI.1.2.2.2.1.2.1.1) (by rw [hR.2.2.2.2.2.2.2.1]; exact hI.1.2.2.2.1.2.1.2)
    rw [zcan hR.1] at h
    exact h
  · obtain ⟨hA, hL, hT, hD, hPi, hR1⟩ := hI.1
    have h6 := hA.1
    unfold zH at h6
    have hy : sY_rise (M 0) x = 0 := by unfold w_rises at hw; exact hw
    have hgr : 0 ≤ x ∧ x < M 0 6 0 := by
      unfold sY_rise at hy
      split at hy <;> omega
    obtain ⟨K9, hk9, hp⟩ := hp
    have hz := zBk_keep (D := M 6) (g := x) (A' := (sRise (M 0) x)) hA hk9 hD hR.2.2.2.2.2.2.2.1 hR.2.2.2.2.2.2.2.2 (zund_g hD hgr (by rw [sRise_6]) (fun r i h3 h4 => by unfold sRise zwr; rw [if_neg h4, if_neg h3]))
    unfold m_rises
    subst hp
    exact ⟨zRl_mk hR rfl rfl rfl (fun _ => rfl) hR.2.2.2.2.1 (by rw [hk9.1]; exact hR.2.2.2.2.2.1) (fun h x x0 x1 => by rw [hk9.2.1 _ (by omega)]; exact hR.2.2.2.2.2.2.1 h x x0 x1) hz.1 hz.2, zcl3⟩
theorem p_slips {M : zMem} (hI : zInv M) {x : Int} (h_x : zR x) : zPair zTi kX9_slips kX10_slips 2 3 [.ref 36, .int (zii x)] [.ref 38, .int (zii x)] M := by
  refine zPair_a (P := fun M1 M2 => ∃ K9, zKb (M1 13) (M 0) K9 ∧ M2 = (zs (zs (zs M1 14 (M1 14)) 13 K9) 3 (zwr (M 0) 3 x 3))) hI (zti _) (zti _) (c_X9_slips hI.1 h_x) (by unfold m_slips; exact zMo_tr (zMo_s (by decide) (by decide)) (zMo_s (by decide) (by decide))) (fun hw => ?_) (fun M1 hR => ?_) (fun M1 M2 hR hp hw => ?_)
  · obtain ⟨hA, hL, hT, hD, hPi, hR1⟩ := hI.1
    have h6 := hA.1
    unfold zH at h6
    have hy : sY_slip (M 0) x = 0 := by unfold w_slips at hw; exact hw
    have hgr : 0 ≤ x ∧ x < M 0 6 0 := by
      unfold sY_slip at hy
      split at hy <;> omega
    unfold m_slips
    exact ⟨sSlip_ok hA hy, hL, hT, sKp_ch hD (by omega) (by omega), hPi, hR1⟩
  · have h := c_X10_slips (M := M1) (N := M) (S := M1 14) (K := M1 13) hI.1.1 hR.2.2.2.2.1 h_x (by rw [hR.2.2.2.2.2.2.2.1]; exact hI.1.2.2.2.1.2.1.1) (by rw [hR.2.2.2.2.2.2.2.1]; exact hI.1.2.2.2.1.2.1.2)
    rw [zcan hR.1] at h
    exact h
  · obtain ⟨hA, hL, hT, hD, hPi, hR1⟩ := hI.1
    have h6 := hA.1
    unfold zH at h6
    have hy : sY_slip (M 0) x = 0 := by unfold w_slips at hw; exact hw
    have hgr : 0 ≤ x ∧ x < M 0 6 0 := by
      unfold sY_slip at hy
      split at hy <;> omega
    obtain ⟨K9, hk9, hp⟩ := hp
    have hz := zBk_keep (D := M 6) (g := x) (A' := (zwr (M 0) 3 x 3)) hA hk9 hD hR.2.2.2.2.2.2.2.1 hR.2.2.2.2.2.2.2.2 (zund_g hD hgr (zwr_r (by decide)) (fun r i h3 h4 => by unfold zwr; rw [if_neg h3]))
    unfold m_slips
    subst hp
    exact ⟨zRl_mk hR rfl rfl rfl (fun _ => rfl) hR.2.2.2.2.1 (by rw [hk9.1]; exact hR.2.2.2.2.2.1) (fun h x x0 x1 => by rw [hk9.2.1 _ (by omega)]; exact hR.2.2.2.2.2.2.1 h x x0 x1) hz.1 hz.2, zcl3⟩
theorem p_cups {M : zMem} (hI : zInv M) {v : Int} (h_v : zR v) : zPair zTi kX9_cups kX10_cups 2 3 [.ref 36, .int (zii v)] [.ref 38, .int (zii v)] M := by
  refine zPair_a (P := fun M1 M2 => ∃ K9, zKb (M1 13) (M 0) K9 ∧ M2 = (zs (zs (zs M1 14 (M1 14)) 13 K9) 3 (zwr (M 0) 6 1 v))) hI (zti _) (zti _) (c_X9_cups hI.1 h_v) (by unfold m_cups; exact zMo_tr (zMo_s (by decide) (by decide)) (zMo_s (by decide) (by decide))) (fun hw => ?_) (fun M1 hR => ?_) (fun M1 M2 hR hp hw => ?_)
  · obtain ⟨hA, hL, hT, hD, hPi, hR1⟩ := hI.1
    have hv : 1 ≤ v ∧ v ≤ 5 := by
      unfold w_cups sY_cups at hw
      split at hw
      · omega
      · split at hw <;> omega
    unfold m_cups
    exact ⟨sCups_ok hA hv.1 hv.2, hL, hT, sKp_ch hD (by omega) (by omega), hPi, hR1⟩
  · have h := c_X10_cups (M := M1) (N := M) (S := M1 14) (K := M1 13) hI.1.1 hR.2.2.2.2.1 h_v (by rw [hR.2.2.2.2.2.2.2.1]; exact hI.1.2.2.2.1.2.1.1) (by rw [hR.2.2.2.2.2.2.2.1]; exact hI.1.2.2.2.1.2.1.2)
    rw [zcan hR.1] at h
    exact h
  · obtain ⟨hA, hL, hT, hD, hPi, hR1⟩ := hI.1
    have hv : 1 ≤ v ∧ v ≤ 5 := by
      unfold w_cups sY_cups at hw
      split at hw
      · omega
      · split at hw <;> omega
    obtain ⟨K9, hk9, hp⟩ := hp
    have hz := zBk_keep (D := M 6) (g := (-1)) (A' := (zwr (M 0) 6 1 v)) hA hk9 hD hR.2.2.2.2.2.2.2.1 hR.2.2.2.2.2.2.2.2 (zund_6 hD (fun r i h => by unfold zwr; rw [if_neg (by omega)]))
    unfold m_cups
    subst hp
    exact ⟨zRl_mk hR rfl rfl rfl (fun _ => rfl) hR.2.2.2.2.1 (by rw [hk9.1]; exact hR.2.2.2.2.2.1) (fun h x x0 x1 => by rw [hk9.2.1 _ (by omega)]; exact hR.2.2.2.2.2.2.1 h x x0 x1) hz.1 hz.2, zcl3⟩
theorem p_rule {M : zMem} (hI : zInv M) {v : Int} (h_v : zR v) : zPair zTi kX9_rule kX10_rule 2 3 [.ref 36, .int (zii v)] [.ref 38, .int (zii v)] M := by
  refine zPair_a (P := fun M1 M2 => ∃ K9, zKb (M1 13) (M 0) K9 ∧ M2 = (zs (zs (zs M1 14 (M1 14)) 13 K9) 3 (zwr (M 0) 6 2 v))) hI (zti _) (zti _) (c_X9_rule hI.1 h_v) (by unfold m_rule; exact zMo_tr (zMo_s (by decide) (by decide)) (zMo_s (by decide) (by decide))) (fun hw => ?_) (fun M1 hR => ?_) (fun M1 M2 hR hp hw => ?_)
  · obtain ⟨hA, hL, hT, hD, hPi, hR1⟩ := hI.1
    have hv : 0 ≤ v ∧ v ≤ 3 := by
      unfold w_rule at hw
      split at hw <;> omega
    unfold m_rule
    exact ⟨sRule_ok hA hv.1 hv.2, hL, hT, sKp_ch hD (by omega) (by omega), hPi, hR1⟩
  · have h := c_X10_rule (M := M1) (N := M) (S := M1 14) (K := M1 13) hI.1.1 hR.2.2.2.2.1 h_v (by rw [hR.2.2.2.2.2.2.2.1]; exact hI.1.2.2.2.1.2.1.1) (by rw [hR.2.2.2.2.2.2.2.1]; exact hI.1.2.2.2.1.2.1.2)
    rw [zcan hR.1] at h
    exact h
  · obtain ⟨hA, hL, hT, hD, hPi, hR1⟩ := hI.1
    have hv : 0 ≤ v ∧ v ≤ 3 := by
      unfold w_rule at hw
      split at hw <;> omega
    obtain ⟨K9, hk9, hp⟩ := hp
    have hz := zBk_keep (D := M 6) (g := (-1)) (A' := (zwr (M 0) 6 2 v)) hA hk9 hD hR.2.2.2.2.2.2.2.1 hR.2.2.2.2.2.2.2.2 (zund_6 hD (fun r i h => by unfold zwr; rw [if_neg (by omega)]))
    unfold m_rule
    subst hp
    exact ⟨zRl_mk hR rfl rfl rfl (fun _ => rfl) hR.2.2.2.2.1 (by rw [hk9.1]; exact hR.2.2.2.2.2.1) (fun h x x0 x1 => by rw [hk9.2.1 _ (by omega)]; exact hR.2.2.2.2.2.2.1 h x x0 x1) hz.1 hz.2, zcl3⟩
theorem p_back {M : zMem} (hI : zInv M) : zPair zTi kX9_back kX10_back 2 2 [.ref 36] [.ref 38] M := by
  refine zPair_a (P := fun M1 M2 => ∃ K9, (K9 0 = (M1 13) 0 ∧ K9 1 0 = (M1 13) 1 0 ∧ K9 1 3 = (M1 13) 1 3 - 1) ∧ M2 = (zs (zs (zs M1 14 (M1 14)) 13 K9) 3 (sBA (M 6) (M 0)))) hI (zti _) (zti _) (c_X9_back hI.1) (by unfold m_back; exact zMo_tr (zMo_s (by decide) (by decide)) (zMo_s (by decide) (by decide))) (fun hw => ?_) (fun M1 hR => ?_) (fun M1 M2 hR hp hw => ?_)
  · obtain ⟨hA, hL, hT, hD, hPi, hR1⟩ := hI.1
    have hd0 : M 6 5 1 ≠ 0 := by
      intro z; unfold w_back at hw; rw [if_pos z] at hw; exact absurd hw (by decide)
    obtain ⟨n, hn⟩ : ∃ n : Nat, (M 6 5 1).toNat = n + 1 := ⟨(M 6 5 1).toNat - 1, by have := hD.2.1; omega⟩
    have hz := hI.2.2.2.2.2.2.2.2.2
    rw [hn] at hz
    have hn8 : 0 ≤ sBn (M 6) ∧ sBn (M 6) < 8 := by unfold sBn; omega
    unfold m_back
    refine ⟨hz.1.2, hL, hT, ⟨?_, ?_, fun i i0 i8 => ?_⟩, hPi, hR1⟩
    · show 0 ≤ sBD (M 6) 5 0 ∧ sBD (M 6) 5 0 < 8
      unfold sBD; rw [zr2 (by decide) rfl, zr0]; exact hn8
    · show 0 ≤ sBD (M 6) 5 1 ∧ sBD (M 6) 5 1 ≤ 8
      unfold sBD; rw [zr0]; have := hD.2.1; omega
    · show -1 ≤ sBD (M 6) 0 i ∧ sBD (M 6) 0 i < 6
      unfold sBD; rw [zwr_r (by decide), zwr_r (by decide)]; exact hD.2.2 i i0 i8
  · have h := c_X10_back (M := M1) (N := M) (S := M1 14) (K := M1 13) hI.1.1 hR.2.2.2.2.1 (B := sBA (M 6) (M 0)) hR.2.2.2.2.2.2.2.1 (by rw [hR.2.2.2.2.2.2.2.1]; exact hI.1.2.2.2.1.2.1.1) (by rw [hR.2.2.2.2.2.2.2.1]; exact hI.1.2.2.2.1.2.1.2) (fun h => by
      have hz := hR.2.2.2.2.2.2.2.2
      have e3 := hR.2.2.2.2.2.2.2.1
      obtain ⟨n, hn⟩ : ∃ n : Nat, (M 6 5 1).toNat = n + 1 := ⟨(M 6 5 1).toNat - 1, by omega⟩
      rw [hn] at hz
      rw [show M1 13 1 3 - 1 = (n : Int) by omega]
      exact hz.1.1)
    rw [zcan hR.1] at h
    exact h
  · obtain ⟨hA, hL, hT, hD, hPi, hR1⟩ := hI.1
    have hd0 : M 6 5 1 ≠ 0 := by
      intro z; unfold w_back at hw; rw [if_pos z] at hw; exact absurd hw (by decide)
    obtain ⟨n, hn⟩ : ∃ n : Nat, (M 6 5 1).toNat = n + 1 := ⟨(M 6 5 1).toNat - 1, by have := hD.2.1; omega⟩
    have hz := hR.2.2.2.2.2.2.2.2
    rw [hn] at hz
    obtain ⟨K9, ⟨k0, k10, k13⟩, hp⟩ := hp
    have e51 : sBD (M 6) 5 1 = M 6 5 1 - 1 := by unfold sBD; rw [zr0]
    unfold m_back
    subst hp
    exact ⟨zRl_mk hR rfl rfl rfl (fun _ => rfl) hR.2.2.2.2.1 (by rw [k10]; exact hR.2.2.2.2.2.1) (fun h => (hR.2.2.2.2.2.2.1 h).eq k0) (by rw [k13, hR.2.2.2.2.2.2.2.1]; exact e51.symm) (by
      show zBk K9 (sBD (M 6) 5 1).toNat (sBD (M 6)) (sBA (M 6) (M 0))
      rw [e51, show (M 6 5 1 - 1).toNat = n by omega]
      exact zBk_k n _ _ (fun j B _ h => h.eq k0) hz.2), zcl3⟩
theorem p_image {M : zMem} (hI : zInv M) : zPair zTi kX9_image kX10_image 2 2 [.ref 36] [.ref 38] M := by
  refine zPair_a (P := fun M1 M2 => ∃ K9, (zKp K9 0 (M 0) ∧ (∀ i : Int, 42 ≤ i → K9 0 i = (M1 13) 0 i) ∧ K9 1 0 = 1 ∧ K9 1 3 = (M1 13) 1 3) ∧ M2 = (zs (zs (zs M1 14 (M1 14)) 13 K9) 3 (M 0))) hI (zti _) (zti _) (c_X9_image hI.1) (by unfold m_image; exact zMo_tr (zMo_s (by decide) (by decide)) (zMo_s (by decide) (by decide))) (fun hw => ?_) (fun M1 hR => ?_) (fun M1 M2 hR hp hw => ?_)
  · obtain ⟨hA, hL, hT, hD, hPi, hR1⟩ := hI.1
    unfold m_image
    exact ⟨hA, hL, hT, hD, hA, by rw [zs_self, zr0]; decide⟩
  · have h := c_X10_image (M := M1) (N := M) (S := M1 14) (K := M1 13) hI.1.1 hR.2.2.2.2.1
    rw [zcan hR.1] at h
    exact h
  · obtain ⟨K9, ⟨k0, k42, k10, k13⟩, hp⟩ := hp
    unfold m_image
    subst hp
    exact ⟨zRl_mk hR rfl rfl rfl (fun i => (show zwr (M 9) 1 0 1 0 i = M 9 0 i from zwr_r (by decide))) hR.2.2.2.2.1 (by rw [k10]; exact (show (1 : Int) = zwr (M 9) 1 0 1 1 0 from zr0.symm)) (fun _ => k0) (by rw [k13]; exact hR.2.2.2.2.2.2.2.1) (zBk_k _ _ _ (fun j B _ h x x0 x1 => by rw [k42 _ (by omega)]; exact h x x0 x1) hR.2.2.2.2.2.2.2.2), zcl3⟩
theorem p_restore {M : zMem} (hI : zInv M) : zPair zTi kX9_restore kX10_restore 2 2 [.ref 36] [.ref 38] M := by
  refine zPair_a (P := fun M1 M2 => ∃ K9, (K9 0 = (M1 13) 0 ∧ K9 1 0 = (M1 13) 1 0 ∧ K9 1 3 = 0) ∧ M2 = (zs (zs (zs M1 14 (M1 14)) 13 K9) 3 (M 2))) hI (zti _) (zti _) (c_X9_restore hI.1) (by unfold m_restore; exact zMo_tr (zMo_s (by decide) (by decide)) (zMo_s (by decide) (by decide))) (fun hw => ?_) (fun M1 hR => ?_) (fun M1 M2 hR hp hw => ?_)
  · obtain ⟨hA, hL, hT, hD, hPi, hR1⟩ := hI.1
    unfold m_restore
    exact ⟨hPi, hL, hT, zCh_0 hD, hPi, hR1⟩
  · have h := c_X10_restore (M := M1) (N := M) (S := M1 14) (K := M1 13) hI.1.1 hR.2.2.2.2.1 hR.2.2.2.2.2.1 hI.1.2.2.2.2.2 hR.2.2.2.2.2.2.1
    rw [zcan hR.1] at h
    exact h
  · obtain ⟨K9, ⟨k0, k10, k13⟩, hp⟩ := hp
    unfold m_restore
    subst hp
    exact ⟨zRl_mk hR rfl rfl rfl (fun _ => rfl) hR.2.2.2.2.1 (by rw [k10]; exact hR.2.2.2.2.2.1) (fun h => (hR.2.2.2.2.2.2.1 h).eq k0) (by rw [k13]; exact (show (0 : Int) = zwr (M 6) 5 1 0 5 1 from zr0.symm)) (by show zBk _ (zwr (M 6) 5 1 0 5 1).toNat _ _; rw [zr0]; trivial), zcl3⟩
theorem p_row {M : zMem} (hI : zInv M) {v : Int} (h_v : zR v) : zPair zTi kX9_row kX10_row 2 1 [.ref 36, .int (zii v)] [.ref 38, .int (zii v)] M := by
  refine zPair_a (P := fun M1 M2 => M2 = zs M1 15 (zwr (zwr (M 5) 0 (M 5 1 0) v) 1 0 (M 5 1 0 + 1))) hI (zti _) (zti _) (c_X9_row hI.1 h_v) (by unfold m_row; exact zMo_s (by decide) (by decide)) (fun hw => ?_) (fun M1 hR => ?_) (fun M1 M2 hR hp hw => ?_)
  · obtain ⟨hA, hL, hT, hD, hPi, hR1⟩ := hI.1
    unfold m_row w_row at *
    have hT1 := hT.1
    refine ⟨hA, hL, ⟨?_, fun i i0 i1 => ?_⟩, hD, hPi, hR1⟩
    · show 0 ≤ (zwr (zwr (M 5) 0 (M 5 1 0) v) 1 0 (M 5 1 0 + 1)) 1 0 ∧ (zwr (zwr (M 5) 0 (M 5 1 0) v) 1 0 (M 5 1 0 + 1)) 1 0 ≤ 12
      rw [zr0]; repeat (first | omega | split at hw)
    · show 0 ≤ (zwr (zwr (M 5) 0 (M 5 1 0) v) 1 0 (M 5 1 0 + 1)) 0 i ∧ (zwr (zwr (M 5) 0 (M 5 1 0) v) 1 0 (M 5 1 0 + 1)) 0 i ≤ 99
      rw [zwr_r (by decide)]
      by_cases e : i = M 5 1 0
      · rw [e, zr0]; repeat (first | omega | split at hw)
      · rw [zwr_i e]; exact hT.2 i i0 i1
  · have h := c_X10_row (M := M1) (N := M) (S := M1 14) (K := M1 13) hI.1.1 hR.2.2.2.2.1 h_v hI.1.2.2.1.1
    rw [zcanb 15 hR.2.2.1 hR.1, zcanx (by decide) (by decide) (by decide) hR.1] at h
    exact h
  · unfold m_row
    subst hp
    exact ⟨zRl_15 hR, zCl_s (by decide)⟩
theorem p_clear {M : zMem} (hI : zInv M) : zPair zTi kX9_clear kX10_clear 1 0 [.ref 36] [.ref 38] M := by
  refine zPair_a (P := fun M1 M2 => M2 = zs M1 15 (zwr (M 5) 1 0 0)) hI (zti _) (zti _) (c_X9_clear hI.1) (by unfold m_clear; exact zMo_s (by decide) (by decide)) (fun hw => ?_) (fun M1 hR => ?_) (fun M1 M2 hR hp hw => ?_)
  · obtain ⟨hA, hL, hT, hD, hPi, hR1⟩ := hI.1
    unfold m_clear
    refine ⟨hA, hL, ⟨?_, fun i i0 i1 => ?_⟩, hD, hPi, hR1⟩
    · show 0 ≤ (zwr (M 5) 1 0 0) 1 0 ∧ (zwr (M 5) 1 0 0) 1 0 ≤ 12
      rw [zr0]; decide
    · show 0 ≤ (zwr (M 5) 1 0 0) 0 i ∧ (zwr (M 5) 1 0 0) 0 i ≤ 99
      rw [zwr_r (by decide)]; exact hT.2 i i0 i1
  · have h := c_X10_clear (M := M1) (N := M) (S := M1 14) (K := M1 13) hI.1.1 hR.2.2.2.2.1
    rw [zcanb 15 hR.2.2.1 hR.1, zcanx (by decide) (by decide) (by decide) hR.1] at h
    exact h
  · unfold m_clear
    subst hp
    exact ⟨zRl_15 hR, zCl_s (by decide)⟩
theorem p_judge {M : zMem} (hI : zInv M) {x : Int} (h_x : zR x) : zPair zTi kX9_judge kX10_judge 5 4 [.ref 36, .int (zii x)] [.ref 38, .int (zii x)] M := by
  refine zPair_a (P := fun M1 M2 => zEy (zs M1 15 (zwr (M 5) 1 0 0)) M2) hI (zti _) (zti _) (c_X9_judge hI.1 h_x) (by unfold m_judge; exact zMo_s (by decide) (by decide)) (fun hw => ?_) (fun M1 hR => ?_) (fun M1 M2 hR hp hw => ?_)
  · obtain ⟨hA, hL, hT, hD, hPi, hR1⟩ := hI.1
    unfold m_judge
    refine ⟨hA, hL, ⟨?_, fun i i0 i1 => ?_⟩, hD, hPi, hR1⟩
    · show 0 ≤ (zwr (M 5) 1 0 0) 1 0 ∧ (zwr (M 5) 1 0 0) 1 0 ≤ 12
      rw [zr0]; decide
    · show 0 ≤ (zwr (M 5) 1 0 0) 0 i ∧ (zwr (M 5) 1 0 0) 0 i ≤ 99
      rw [zwr_r (by decide)]; exact hT.2 i i0 i1
  · have h := c_X10_judge (M := M1) (N := M) (S := M1 14) (K := M1 13) hI.1.1 hR.2.2.2.2.1 h_x hI.1.2.2.1
    rw [zcanb 15 hR.2.2.1 hR.1, zcanx (by decide) (by decide) (by decide) hR.1] at h
    exact h
  · unfold m_judge
    exact ⟨zRl_ey (zRl_15 hR) hp, (zCl_s (by decide)).tr hp.cl⟩
theorem p_feed {M : zMem} (hI : zInv M) {v : Int} (h_v : zR v) : zPair zTi kX9_feed kX10_feed 2 1 [.ref 36, .int (zii v)] [.ref 38, .int (zii v)] M := by
  refine zPair_a (P := fun M1 M2 => M2 = zs M1 11 (zwr (zwr (M 4) 0 (M 4 1 0) v) 1 0 (M 4 1 0 + 1))) hI (zti _) (zti _) (c_X9_feed hI.1 h_v) (by unfold m_feed; exact zMo_s (by decide) (by decide)) (fun hw => ?_) (fun M1 hR => ?_) (fun M1 M2 hR hp hw => ?_)
  · obtain ⟨hA, hL, hT, hD, hPi, hR1⟩ := hI.1
    unfold m_feed w_feed at *
    have hL1 := hL.1
    refine ⟨hA, ⟨?_, fun i i0 i1 => ?_⟩, hT, hD, hPi, hR1⟩
    · show 0 ≤ (zwr (zwr (M 4) 0 (M 4 1 0) v) 1 0 (M 4 1 0 + 1)) 1 0 ∧ (zwr (zwr (M 4) 0 (M 4 1 0) v) 1 0 (M 4 1 0 + 1)) 1 0 ≤ 96
      rw [zr0]; repeat (first | omega | split at hw)
    · show 0 ≤ (zwr (zwr (M 4) 0 (M 4 1 0) v) 1 0 (M 4 1 0 + 1)) 0 i ∧ (zwr (zwr (M 4) 0 (M 4 1 0) v) 1 0 (M 4 1 0 + 1)) 0 i ≤ 255
      rw [zwr_r (by decide)]
      by_cases e : i = M 4 1 0
      · rw [e, zr0]; repeat (first | omega | split at hw)
      · rw [zwr_i e]; exact hL.2 i i0 i1
  · have h := c_X10_feed (M := M1) (N := M) (S := M1 14) (K := M1 13) hI.1.1 hR.2.2.2.2.1 h_v hI.1.2.1.1
    rw [zcanb 11 hR.2.1 hR.1, zcanx (by decide) (by decide) (by decide) hR.1] at h
    exact h
  · unfold m_feed
    subst hp
    exact ⟨zRl_11 hR, zCl_s (by decide)⟩
theorem p_count {M : zMem} (hI : zInv M) {w : Int} (h_w : zR w) : zPair zTi kX9_count kX10_count 1 1 [.ref 36, .int (zii w)] [.ref 38, .int (zii w)] M := by
  refine zPair_a (P := fun M1 M2 => M2 = M1) hI (zti _) (zti _) (c_X9_count hI.1 h_w) ⟨rfl, fun _ _ => rfl⟩ (fun _ => hI.1) (fun M1 hR => ?_) (fun M1 M2 hR hp hw => ?_)
  · have h := c_X10_count (M := M1) (N := M) (S := M1 14) (K := M1 13) hI.1.1 hR.2.2.2.2.1 h_w hR.2.1 hR.2.2.1 hR.2.2.2.2.2.2.2.1 hR.2.2.2.1
    rw [zcan hR.1] at h
    exact h
  · subst hp
    exact ⟨hR, rfl, rfl, rfl, rfl, rfl, rfl⟩
theorem zcanh {M : zMem} {A B : zAft} (hb : M 11 = B) (h : M 3 = A) : zs (zs (zs (zs (zs M 11 B) 12 (M 12)) 14 (M 14)) 13 (M 13)) 3 A = M := by rw [← h, ← hb, zs_id, zs_id, zs_id, zs_id, zs_id]
theorem zRl_12 {N X : zMem} {H : zAft} (hR : zRl N X) : zRl N (zs X 12 H) := hR
theorem p_house {M : zMem} (hI : zInv M) : zPair zTi kX9_house kX10_house 7 7 [.ref 36] [.ref 38] M := by
  obtain ⟨hA, hL, hT, hD, hPi, hR1⟩ := hI.1
  have hLE : zLt (zwr (M 4) 1 0 0) := ⟨by rw [zr0]; decide, fun i i0 i1 => by rw [zwr_r (by decide)]; exact hL.2 i i0 i1⟩
  refine ⟨_, c_X9_house hI.1, fun r M1 h1 => ?_⟩
  rcases h1 with ⟨hw, _, _⟩ | ⟨_, rfl, hx⟩
  · exact absurd rfl hw
  have hmo : zMo M (m_house M) := by
    unfold m_house
    split
    · exact zMo_tr (zMo_tr (zMo_s (by decide) (by decide)) (zMo_s (by decide) (by decide))) (zMo_s (by decide) (by decide))
    · exact zMo_s (by decide) (by decide)
  have hR := zRl_mo hI.2 ⟨hx.mo.1.trans hmo.1, fun m h => (hx.mo.2 m h).trans (hmo.2 m h)⟩
  have h := c_X10_house (M := M1) (N := M) (S := M1 14) (K := M1 13) (H := M1 12) hA hR.2.2.2.2.1 hL
  rw [zcanh hR.2.1 hR.1] at h
  refine ⟨_, zti _, rfl, _, h, fun r2 M2 h2 => ?_⟩
  have key : zRl (m_house M) M2 ∧ zCl M1 M2 := by
    obtain ⟨h20, S9, K9, H9, A9, hS9, hpos, hneg, h2e⟩ := h2
    have hcl : zCl M1 M2 := by rw [h2e]; exact (((((zCl_s (by decide)).tr (zCl_s (by decide))).tr (zCl_s (by decide))).tr (zCl_s (by decide)))).tr zCl_3
    refine ⟨?_, hcl⟩
    unfold m_house
    by_cases hv : 0 < (sHa (M 4) (M 0)).1
    · rw [if_pos hv]
      obtain ⟨e1, e2, e3, e4⟩ := hpos hv
      rw [h2e, e1]
      exact zRl_mk (zRl_12 (H := H9) (zRl_11 (T := (zwr (M 4) 1 0 0)) hR)) rfl rfl rfl (fun _ => rfl) hS9 (by rw [e3]; exact hR.2.2.2.2.2.1) (fun hh x x0 x1 => by rw [e4 _ (by omega)]; exact hR.2.2.2.2.2.2.1 hh x x0 x1) (by rw [e2]; exact (show (0 : Int) = zwr (M 6) 5 1 0 5 1 from zr0.symm)) (by show zBk _ (zwr (M 6) 5 1 0 5 1).toNat _ _; rw [zr0]; trivial)
    · rw [if_neg hv]
      obtain ⟨e1, e2⟩ := hneg (by omega)
      refine zRl_ey (zRl_11 (T := (zwr (M 4) 1 0 0)) hR) ⟨fun m h12 h13 h14 _ _ => ?_, ?_, ?_⟩
      · rw [h2e, e1]
        by_cases em : m = 3
        · subst em; rw [zs_self]; exact hR.1.symm
        · rw [zs_ne em, zs_ne h13, zs_ne h14, zs_ne h12]
      · rw [h2e]; exact e2
      · rw [h2e]; exact hS9
  · refine ⟨h2.1, zInv_of ?_ key.1 (hx.cl.tr key.2)⟩
    unfold m_house
    split
    next hv =>
      refine ⟨?_, hLE, hT, zCh_0 hD, hPi, hR1⟩
      show zOk 999 (sHa (M 4) (M 0)).2
      unfold sHa
      split
      · exact hA
      · exact sHf_ok _ _ _ _ hA
    next hv => exact ⟨hA, hLE, hT, hD, hPi, hR1⟩
