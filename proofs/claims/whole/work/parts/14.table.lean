theorem zs71 {M : zMem} {L L' C : zAft} (h : L = L') : zs (zs M 7 L) 1 C = zs (zs M 7 L') 1 C := by rw [h]
/-- who is gone when, if a set rises now -/
def sF (A : zAft) (s : Int) (g : Int) : Nat := sWh (sRi A s (sG A)) g
theorem sF_le (A : zAft) (s g : Int) : sF A s g ≤ 100 := sWh_le _ _
/-- as noted behind n minutes -/
def sVn (p : Nat → Bool) (n : Nat) : Int := if sFst p n < n then (sFst p n : Int) else 100
theorem sVn_0 (p : Nat → Bool) : sVn p 0 = 100 := rfl
theorem sVn_succ (p : Nat → Bool) {n : Nat} (hn : n < 100) : sVn p (n + 1) = if p n = true ∧ sVn p n = 100 then (n : Int) else sVn p n := by
  have h1 := sFst_le p n
  have e : sFst p (n + 1) = if sFst p n < n then sFst p n else if p n then n else n + 1 := rfl
  unfold sVn
  generalize sFst p (n + 1) = z at e ⊢
  by_cases h : sFst p n < n
  · rw [if_pos h] at e
    subst e
    rw [if_pos (by omega), if_pos h, if_neg (by omega)]
  · rw [if_neg h] at e
    rw [if_neg h]
    by_cases hp : p n = true
    · rw [if_pos hp] at e
      subst e
      rw [if_pos (by omega), if_pos ⟨hp, rfl⟩]
    · rw [if_neg hp] at e
      subst e
      rw [if_neg (by omega), if_neg (fun z => hp z.1)]
theorem sVn_100 (p : Nat → Bool) : sVn p 100 = (sFst p 100 : Int) := by
  have h1 := sFst_le p 100
  unfold sVn; split <;> omega
theorem sVn_in (p : Nat → Bool) (n : Nat) (hn : n ≤ 100) : 0 ≤ sVn p n ∧ sVn p n ≤ 100 := by
  unfold sVn; split <;> omega
theorem sVn_hit {p : Nat → Bool} {n : Nat} (h : p n = true) (hn : n < 100) : sVn p (n + 1) = (sFst p 100 : Int) := by
  have key : ∀ m, n + 1 ≤ m → sFst p m = sFst p (n + 1) ∧ sFst p (n + 1) < n + 1 := by
    intro m
    induction m with
    | zero => intro h9; omega
    | succ m ih =>
      intro h9
      by_cases e : n = m
      · subst e
        refine ⟨rfl, ?_⟩
        have h1 := sFst_le p n
        simp only [sFst]
        split
        · omega
        · omega
      · obtain ⟨i1, i2⟩ := ih (by omega)
        refine ⟨?_, i2⟩
        rw [← i1]
        show (if sFst p m < m then sFst p m else if p m then m else m + 1) = sFst p m
        rw [if_pos (by omega)]
  obtain ⟨k1, k2⟩ := key 100 (by omega)
  unfold sVn; rw [if_pos k2, k1]
def sPg (A : zAft) (s : Int) (g : Int) : Nat → Bool := fun q => decide (sRun (sRi A s (sG A)) q 3 g = 3)
theorem sF_eq (A : zAft) (s g : Int) : sF A s g = sFst (sPg A s g) 100 := by unfold sF sWh sPg; with_reducible rfl
/-- the table's row of a set, for the guests ahead of m as f tells, the others as g tells -/
def sNl (L : zAft) (s : Int) (G : Nat) (f : Nat → Int) : zAft := fun r x => if r = 0 ∧ 6 * s ≤ x ∧ x < 6 * s + G then f (x - 6 * s).toNat else L r x
theorem sNl_upd {L : zAft} {s : Int} {m : Nat} {f : Nat → Int} {v : Int} : zwr (sNl L s m f) 0 (6 * s + m) v = sNl L s (m + 1) (fun g => if g = m then v else f g) := by
  funext r x
  unfold zwr sNl
  by_cases h : r = 0
  · subst h
    by_cases h1 : x = 6 * s + m
    · subst h1
      rw [if_pos ⟨rfl, rfl⟩, if_pos ⟨rfl, by omega, by omega⟩]; dsimp only; rw [if_pos (by omega)]
    · rw [if_neg (fun z => h1 z.2)]
      by_cases h2 : 6 * s ≤ x ∧ x < 6 * s + m
      · rw [if_pos ⟨rfl, h2⟩, if_pos ⟨rfl, by omega, by omega⟩]; dsimp only; rw [if_neg (by omega)]
      · rw [if_neg (fun z => h2 z.2), if_neg (by omega)]
  · rw [if_neg (fun z => h z.1), if_neg (fun z => h z.1), if_neg (fun z => h z.1)]
theorem sNl_set {L : zAft} {s : Int} {G m : Nat} (hm : m < G) {f : Nat → Int} {v : Int} : zwr (sNl L s G f) 0 (6 * s + m) v = sNl L s G (fun g => if g = m then v else f g) := by
  funext r x
  unfold zwr sNl
  by_cases h : r = 0
  · subst h
    by_cases h1 : x = 6 * s + m
    · subst h1
      rw [if_pos ⟨rfl, rfl⟩, if_pos ⟨rfl, by omega, by omega⟩]; dsimp only; rw [if_pos (by omega)]
    · rw [if_neg (fun z => h1 z.2)]
      by_cases h2 : 6 * s ≤ x ∧ x < 6 * s + G
      · rw [if_pos ⟨rfl, h2⟩, if_pos ⟨rfl, h2⟩]; dsimp only; rw [if_neg (by omega)]
      · rw [if_neg (fun z => h2 z.2), if_neg (fun z => h2 z.2)]
  · rw [if_neg (fun z => h z.1), if_neg (fun z => h z.1), if_neg (fun z => h z.1)]
theorem sNl_at {L : zAft} {s : Int} {G m : Nat} (hm : m < G) {f : Nat → Int} : sNl L s G f 0 (6 * s + m) = f m := by
  unfold sNl; rw [if_pos ⟨rfl, by omega, by omega⟩, show (6 * s + (m : Int) - 6 * s).toNat = m by omega]
theorem sNl_cong {L : zAft} {s : Int} {G : Nat} {f g : Nat → Int} (h : ∀ m, m < G → f m = g m) : sNl L s G f = sNl L s G g := by
  funext r x
  unfold sNl
  by_cases h1 : r = 0 ∧ 6 * s ≤ x ∧ x < 6 * s + G
  · rw [if_pos h1, if_pos h1, h _ (by omega)]
  · rw [if_neg h1, if_neg h1]
theorem sNl_0 (L : zAft) (s : Int) (f : Nat → Int) : sNl L s 0 f = L := by
  funext r x; unfold sNl; rw [if_neg (by omega)]
theorem zand_63 : ∀ s : Nat, s < 64 → zand (s : Int) 63 = s := by
  have h : ∀ s : Fin 64, zand ((s.val : Nat) : Int) 63 = (s.val : Nat) := by decide +kernel
  exact fun s hs => h ⟨s, hs⟩
set_option maxRecDepth 100000 in
theorem c_X2_placeOf {M : zMem} {s : Nat} {x : Int} (hs : s < 64) : zCt kX2_placeOf 0 [.int (zii s), .int (zii x)] M (zRet (.int (zii (6 * (s : Int) + x))) M) := by
  refine zMet (by decide) (Nat.le_of_ble_eq_true rfl) ?_
  show zX kX2_placeOf 0 0 [some (.int (zii s)), some (.int (zii x))] [] _ _
  refine Y_iload_0 i_X2_placeOf_0 ?_
  refine X_bipush i_X2_placeOf_1 (by decide +kernel) ?_
  refine X_iand i_X2_placeOf_3 ?_
  refine X_bipush i_X2_placeOf_4 (by decide +kernel) ?_
  refine X_imul i_X2_placeOf_6 ?_
  refine Y_iload_1 i_X2_placeOf_7 ?_
  refine X_iadd i_X2_placeOf_8 ?_
  refine X_iret i_X2_placeOf_9 rfl ?_
  exact zri (by rw [zand_63 s hs]; omega)
theorem sAll_at {A : zAft} {o : Int} {n : Nat} (h : sAll A o n = true) (q : Nat) (hq : q < n) (ho : (q : Int) ≠ o) : A 3 q = 3 := by
  have h1 := sAll_le (n := q + 1) (by omega) h
  simp only [sAll, Bool.and_eq_true, Bool.or_eq_true, decide_eq_true_eq] at h1
  rcases h1.2 with h2 | h2
  · exact absurd h2 ho
  · exact h2
set_option maxRecDepth 100000 in
theorem c_X2_noteLeaving {M : zMem} {A B L : zAft} (e : M 0 = A) (hA : zOk 999 A) {s : Nat} (hs : s < 64) : zCt kX2_noteLeaving 4 [.ref 32, .int (zii s)] ((zs (zs M 7 L) 1 B)) (fun r M9 => r = none ∧ ∃ C, M9 = zs (zs M 7 (sNl L s (sG A) (fun g => (sF A s g : Int)))) 1 C) := by
  subst e
  have h6 := hA.1
  unfold zH at h6
  have hG := sG_le hA.1
  have hB := sRi_ok hA s (sG (M 0)) hG.1
  have hB6 : sG (sRi (M 0) s (sG (M 0))) = sG (M 0) := by unfold sG; rw [sRi_6]
  refine zMet (by decide) (Nat.le_of_ble_eq_true rfl) ?_
  show zX kX2_noteLeaving 4 0 [some (.ref 32), some (.int (zii s)), none, none, none] [] _ _
  have main : ∀ (n : Nat) (j : Nat) (lx ly : Option Value), j + n = 100 → zX kX2_noteLeaving 4 52 [some (.ref 32), some (.int (zii s)), some (.int (zii j)), lx, ly] [] (zs (zs M 7 (sNl L s (sG (M 0)) (fun g => sVn (sPg (M 0) s (g : Int)) j))) 1 (sRun (sRi (M 0) s (sG (M 0))) j)) (fun r M9 => r = none ∧ ∃ C, M9 = zs (zs M 7 (sNl L s (sG (M 0)) (fun g => (sF (M 0) s g : Int)))) 1 C) := by
    intro n
    induction n with
    | zero =>
      intro j lx ly hg 
      obtain rfl : j = 100 := by omega
      refine Y_iload_2 i_X2_noteLeaving_52 ?_
      refine X_bipush i_X2_noteLeaving_53 (by decide +kernel) ?_
      refine X_icmp_gt i_X2_noteLeaving_55 (tgt := 144) rfl ⟨by omega, by omega⟩ ⟨by omega, by omega⟩ (fun h55 => ?_) (fun h55 => by exfalso; omega)
      refine X_vret i_X2_noteLeaving_144 rfl ?_
      refine ⟨rfl, sRun (sRi (M 0) s (sG (M 0))) 100, zs71 (sNl_cong (fun q hq => ?_))⟩
      rw [sVn_100, sF_eq]
    | succ n ih =>
      intro j lx ly hg 
      have hO := sRun_ok hB j
      have hO6 := sRun_6 (sRi (M 0) s (sG (M 0))) 0 (by omega) (by omega) j
      have h60 : sRi (M 0) s (sG (M 0)) 6 0 = M 0 6 0 := by rw [sRi_6]
      have hgS : sG (sRun (sRi (M 0) s (sG (M 0))) j) = sG (M 0) := by rw [sRun_G, hB6]
      have inner : ∀ (m : Nat) (g : Nat) (ly : Option Value), g + m = sG (M 0) → zX kX2_noteLeaving 4 60 [some (.ref 32), some (.int (zii s)), some (.int (zii j)), some (.int (zii g)), ly] [] (zs (zs M 7 (sNl L s (sG (M 0)) (fun q => if q < g then sVn (sPg (M 0) s (q : Int)) (j + 1) else sVn (sPg (M 0) s (q : Int)) j))) 1 (sRun (sRi (M 0) s (sG (M 0))) j)) (fun r M9 => r = none ∧ ∃ C, M9 = zs (zs M 7 (sNl L s (sG (M 0)) (fun g => (sF (M 0) s g : Int)))) 1 C) := by
        intro m
        induction m with
        | zero =>
          intro g ly hg 
          obtain rfl : g = sG (M 0) := by omega
          have hcg : sNl L s (sG (M 0)) (fun q => if q < sG (M 0) then sVn (sPg (M 0) s (q : Int)) (j + 1) else sVn (sPg (M 0) s (q : Int)) j) = sNl L s (sG (M 0)) (fun q => sVn (sPg (M 0) s (q : Int)) (j + 1)) := sNl_cong (fun q hq => by rw [if_pos hq])
          rw [hcg]
          refine Y_iload_3 i_X2_noteLeaving_60 ?_
          refine Y_aload_0 i_X2_noteLeaving_61 ?_
          refine X_getR i_X2_noteLeaving_62 f_X2_19 rfl ?_
          refine Y_getI i_X2_noteLeaving_65 f_X2_76 rfl (zg0 _ _ _ _ _) ?_
          refine X_icmp_ge i_X2_noteLeaving_68 (tgt := 117) rfl ⟨by omega, by omega⟩ ⟨by omega, by omega⟩ (fun h68 => ?_) (fun h68 => by exfalso; omega)
          refine Y_aload_0 i_X2_noteLeaving_117 ?_
          refine X_getR i_X2_noteLeaving_118 f_X2_19 rfl ?_
          refine X_iconst i_X2_noteLeaving_121 ?_
          refine Y_callV (k' := kX0_allGoneBut) i_X2_noteLeaving_122 l_X2_82 m_X0_allGoneBut (c_X0_allGoneBut (i := 1) (by omega) (zs_self _ _ _) hO (zR_lit rfl)) rfl rfl rfl rfl rfl ?_
          refine Y_ifq_eq i_X2_noteLeaving_125 (tgt := 131) rfl  (fun h125 => ?_) (fun h125 => ?_)
          · refine Y_aload_0 i_X2_noteLeaving_131 ?_
            refine X_getR i_X2_noteLeaving_132 f_X2_19 rfl ?_
            refine Y_callVv (k' := kX0_passOne) i_X2_noteLeaving_135 l_X2_73 m_X0_passOne (c_X0_passOne (i := 1) (by omega) hO (by omega)) rfl rfl rfl rfl rfl ?_
            refine Y_iinc_2 i_X2_noteLeaving_138 rfl rfl ?_
            refine X_goto i_X2_noteLeaving_141 (tgt := 52) rfl ?_
            exact X_eq (ih (j + 1) _ _ (by omega)) (by simp; exact ⟨rfl, rfl⟩) rfl rfl
          · refine X_goto i_X2_noteLeaving_128 (tgt := 144) rfl ?_
            refine X_vret i_X2_noteLeaving_144 rfl ?_
            refine ⟨rfl, _, zs71 (sNl_cong (fun q hq => ?_))⟩
            have h9 := sAll_at (n := sG (M 0)) (by rw [← hgS]; exact h125) q hq (by omega)
            show sVn (sPg (M 0) s (q : Int)) (j + 1) = (sF (M 0) s (q : Int) : Int)
            rw [sF_eq]
            exact sVn_hit (p := sPg (M 0) s (q : Int)) (decide_eq_true h9) (by omega)
        | succ m ih2 =>
          intro g ly hg 
          have hgg := hO.2 g (by omega) (by omega)
          unfold zG at hgg
          have hv1 := sVn_in (sPg (M 0) s (g : Int)) j (by omega)
          have hv2 := sVn_succ (sPg (M 0) s (g : Int)) (n := j) (by omega)
          have hat : sNl L s (sG (M 0)) (fun q => if q < g then sVn (sPg (M 0) s (q : Int)) (j + 1) else sVn (sPg (M 0) s (q : Int)) j) 0 (6 * (s : Int) + (g : Int)) = sVn (sPg (M 0) s (g : Int)) j := by rw [sNl_at (by omega), if_neg (by omega)]
          refine Y_iload_3 i_X2_noteLeaving_60 ?_
          refine Y_aload_0 i_X2_noteLeaving_61 ?_
          refine X_getR i_X2_noteLeaving_62 f_X2_19 rfl ?_
          refine Y_getI i_X2_noteLeaving_65 f_X2_76 rfl (zg0 _ _ _ _ _) ?_
          refine X_icmp_ge i_X2_noteLeaving_68 (tgt := 117) rfl ⟨by omega, by omega⟩ ⟨by omega, by omega⟩ (fun h68 => by exfalso; omega) (fun h68 => ?_)
          refine Y_iload_1 i_X2_noteLeaving_71 ?_
          refine Y_iload_3 i_X2_noteLeaving_72 ?_
          refine Y_callS (k' := kX2_placeOf) i_X2_noteLeaving_73 l_X2_79 m_X2_placeOf (c_X2_placeOf (x := (g : Int)) hs) rfl rfl rfl rfl ?_
          refine Y_istore_4 i_X2_noteLeaving_76 rfl rfl ?_
          refine Y_aload_0 i_X2_noteLeaving_78 ?_
          refine X_getR i_X2_noteLeaving_79 f_X2_19 rfl ?_
          refine X_getR i_X2_noteLeaving_82 f_X2_67 rfl ?_
          refine Y_iload_3 i_X2_noteLeaving_85 ?_
          refine Y_iald i_X2_noteLeaving_86 rfl ⟨by omega, by omega⟩ rfl (zg0 _ _ _ _ _) ?_
          refine X_iconst i_X2_noteLeaving_87 ?_
          refine Y_icmp_ne i_X2_noteLeaving_88 (tgt := 111) rfl ⟨by omega, by omega⟩ ⟨by omega, by omega⟩ (fun h88 => ?_) (fun h88 => ?_)
          · refine Y_iinc_3 i_X2_noteLeaving_111 rfl rfl ?_
            refine X_goto i_X2_noteLeaving_114 (tgt := 60) rfl ?_
            have hp : ¬ (sPg (M 0) s (g : Int) j = true ∧ sVn (sPg (M 0) s (g : Int)) j = 100) := fun z => h88 (of_decide_eq_true z.1)
            rw [if_neg hp] at hv2
            exact X_eq (ih2 (g + 1) _ (by omega)) (by simp; rfl) rfl (zs71 (sNl_cong (fun q hq => by
              by_cases e : q = g
              · subst e; rw [if_pos (by omega), if_neg (by omega), hv2]
              · by_cases e2 : q < g
                · rw [if_pos (by omega), if_pos e2]
                · rw [if_neg (by omega), if_neg e2])))
          · refine Y_aload_0 i_X2_noteLeaving_91 ?_
            refine X_getR i_X2_noteLeaving_92 f_X2_9 rfl ?_
            refine Y_iload_4 i_X2_noteLeaving_95 ?_
            refine Y_iald i_X2_noteLeaving_97 rfl ⟨by omega, by omega⟩ rfl (zg1 rfl (zg0 _ _ _ _ _)) ?_
            rw [hat]
            refine X_bipush i_X2_noteLeaving_98 (by decide +kernel) ?_
            refine Y_icmp_ne i_X2_noteLeaving_100 (tgt := 111) rfl ⟨by omega, by omega⟩ ⟨by omega, by omega⟩ (fun h100 => ?_) (fun h100 => ?_)
            · refine Y_iinc_3 i_X2_noteLeaving_111 rfl rfl ?_
              refine X_goto i_X2_noteLeaving_114 (tgt := 60) rfl ?_
              have hp : ¬ (sPg (M 0) s (g : Int) j = true ∧ sVn (sPg (M 0) s (g : Int)) j = 100) := fun z => h100 z.2
              rw [if_neg hp] at hv2
              exact X_eq (ih2 (g + 1) _ (by omega)) (by simp; rfl) rfl (zs71 (sNl_cong (fun q hq => by
                by_cases e : q = g
                · subst e; rw [if_pos (by omega), if_neg (by omega), hv2]
                · by_cases e2 : q < g
                  · rw [if_pos (by omega), if_pos e2]
                  · rw [if_neg (by omega), if_neg e2])))
            · refine Y_aload_0 i_X2_noteLeaving_103 ?_
              refine X_getR i_X2_noteLeaving_104 f_X2_9 rfl ?_
              refine Y_iload_4 i_X2_noteLeaving_107 ?_
              refine Y_iload_2 i_X2_noteLeaving_109 ?_
              refine Y_iast i_X2_noteLeaving_110 rfl ⟨by omega, by omega⟩ rfl (zp1 rfl (zp0 _ _ _ _ _ _)) ?_
              refine Y_iinc_3 i_X2_noteLeaving_111 rfl rfl ?_
              refine X_goto i_X2_noteLeaving_114 (tgt := 60) rfl ?_
              have hp : sPg (M 0) s (g : Int) j = true ∧ sVn (sPg (M 0) s (g : Int)) j = 100 := ⟨decide_eq_true h88, h100⟩
              rw [if_pos hp] at hv2
              exact X_eq (ih2 (g + 1) _ (by omega)) (by simp; rfl) rfl (zs71 (by
                rw [sNl_set (by omega)]
                exact sNl_cong (fun q hq => by
                  by_cases e : q = g
                  · subst e; rw [if_pos (by omega), if_pos rfl, hv2]
                  · by_cases e2 : q < g
                    · rw [if_pos (by omega), if_neg e, if_pos e2]
                    · rw [if_neg (by omega), if_neg e, if_neg e2])))
      refine Y_iload_2 i_X2_noteLeaving_52 ?_
      refine X_bipush i_X2_noteLeaving_53 (by decide +kernel) ?_
      refine X_icmp_gt i_X2_noteLeaving_55 (tgt := 144) rfl ⟨by omega, by omega⟩ ⟨by omega, by omega⟩ (fun h55 => by exfalso; omega) (fun h55 => ?_)
      refine X_iconst i_X2_noteLeaving_58 ?_
      refine Y_istore_3 i_X2_noteLeaving_59 rfl rfl ?_
      exact X_eq (inner (sG (M 0)) 0 _ (by omega)) rfl rfl (zs71 (sNl_cong (fun q hq => by rw [if_neg (by omega)])))
  have init : ∀ (n : Nat) (g : Nat) (lx ly : Option Value), g + n = sG (M 0) → zX kX2_noteLeaving 4 21 [some (.ref 32), some (.int (zii s)), some (.int (zii g)), lx, ly] [] (zs (zs M 7 (sNl L s g (fun g => sVn (sPg (M 0) s (g : Int)) 0))) 1 (sRi (M 0) s (sG (M 0)))) (fun r M9 => r = none ∧ ∃ C, M9 = zs (zs M 7 (sNl L s (sG (M 0)) (fun g => (sF (M 0) s g : Int)))) 1 C) := by
    intro n
    induction n with
    | zero =>
      intro g lx ly hg 
      obtain rfl : g = sG (M 0) := by omega
      have h60 : sRi (M 0) s (sG (M 0)) 6 0 = M 0 6 0 := by rw [sRi_6]
      refine Y_iload_2 i_X2_noteLeaving_21 ?_
      refine Y_aload_0 i_X2_noteLeaving_22 ?_
      refine X_getR i_X2_noteLeaving_23 f_X2_19 rfl ?_
      refine Y_getI i_X2_noteLeaving_26 f_X2_76 rfl (zg0 _ _ _ _ _) ?_
      refine X_icmp_ge i_X2_noteLeaving_29 (tgt := 50) rfl ⟨by omega, by omega⟩ ⟨by omega, by omega⟩ (fun h29 => ?_) (fun h29 => by exfalso; omega)
      refine X_iconst i_X2_noteLeaving_50 ?_
      refine Y_istore_2 i_X2_noteLeaving_51 rfl rfl ?_
      exact main 100 0 _ _ (by omega)
    | succ n ih =>
      intro g lx ly hg 
      have h60 : sRi (M 0) s (sG (M 0)) 6 0 = M 0 6 0 := by rw [sRi_6]
      refine Y_iload_2 i_X2_noteLeaving_21 ?_
      refine Y_aload_0 i_X2_noteLeaving_22 ?_
      refine X_getR i_X2_noteLeaving_23 f_X2_19 rfl ?_
      refine Y_getI i_X2_noteLeaving_26 f_X2_76 rfl (zg0 _ _ _ _ _) ?_
      refine X_icmp_ge i_X2_noteLeaving_29 (tgt := 50) rfl ⟨by omega, by omega⟩ ⟨by omega, by omega⟩ (fun h29 => by exfalso; omega) (fun h29 => ?_)
      refine Y_aload_0 i_X2_noteLeaving_32 ?_
      refine X_getR i_X2_noteLeaving_33 f_X2_9 rfl ?_
      refine Y_iload_1 i_X2_noteLeaving_36 ?_
      refine Y_iload_2 i_X2_noteLeaving_37 ?_
      refine Y_callS (k' := kX2_placeOf) i_X2_noteLeaving_38 l_X2_79 m_X2_placeOf (c_X2_placeOf (x := (g : Int)) hs) rfl rfl rfl rfl ?_
      refine X_bipush i_X2_noteLeaving_41 (by decide +kernel) ?_
      refine Y_iast i_X2_noteLeaving_43 rfl ⟨by omega, by omega⟩ rfl (zp1 rfl (zp0 _ _ _ _ _ _)) ?_
      refine Y_iinc_2 i_X2_noteLeaving_44 rfl rfl ?_
      refine X_goto i_X2_noteLeaving_47 (tgt := 21) rfl ?_
      exact X_eq (ih (g + 1) _ _ (by omega)) (by simp; exact ⟨rfl, rfl⟩) rfl (zs71 (by rw [sNl_upd]; exact sNl_cong (fun q hq => by by_cases e : q = g <;> simp [e, sVn_0])))
  refine Y_aload_0 i_X2_noteLeaving_0 ?_
  refine X_getR i_X2_noteLeaving_1 f_X2_19 rfl ?_
  refine Y_aload_0 i_X2_noteLeaving_4 ?_
  refine X_getR i_X2_noteLeaving_5 f_X2_15 rfl ?_
  refine Y_callVv (k' := kX0_copyFrom) i_X2_noteLeaving_8 l_X2_34 m_X0_copyFrom (c_X0_copyFrom (i := 1) (j := 0) (by omega) (by omega) rfl) rfl rfl rfl rfl rfl ?_
  change zX _ _ _ _ _ (zs (zs M 7 L) 1 (M 0)) _
  refine Y_aload_0 i_X2_noteLeaving_11 ?_
  refine X_getR i_X2_noteLeaving_12 f_X2_19 rfl ?_
  refine Y_iload_1 i_X2_noteLeaving_15 ?_
  refine Y_callVv (k' := kX0_riseAll) i_X2_noteLeaving_16 l_X2_58 m_X0_riseAll (c_X0_riseAll (i := 1) (by omega) hA) rfl rfl rfl rfl rfl ?_
  refine X_iconst i_X2_noteLeaving_19 ?_
  refine Y_istore_2 i_X2_noteLeaving_20 rfl rfl ?_
  exact X_eq (init (sG (M 0)) 0 _ _ (by omega)) rfl rfl (zs71 (sNl_0 _ _ _))
