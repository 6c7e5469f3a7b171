-- the class's gardens: beds, days, sums
def pRn (w : Nat → Int32) : Prop := dwX (dwZ (w 0)) 100 < (if w 5 = nI 1 then w 3 else w 2)
def pRr (z : Int32) : Nat := 1 + (shI z).toNatClampNeg % 9
noncomputable def pDay (T : gT) (n m : Nat) (w : Nat → Int32) : Nat → Int32 := haveI := Classical.propDecidable (pRn w)
  if pRn w then wS (pWb n m 0 (pLo T n 0 (pFa T (pRr (dwZ (dwZ (w 0)))) n 0 (wS (wS w 5 (nI 1)) 0 (dwZ (dwZ (w 0)))) (nI 0)).1)) 1 (w 1 + nI 1)
  else wS (pWb n m 0 (pLo T n 0 (pFa T 0 n 0 (wS (wS w 5 (nI 0)) 0 (dwZ (w 0))) (nI 0)).1)) 1 (w 1 + nI 1)
noncomputable def pDays (T : gT) (n m : Nat) : Nat → (Nat → Int32) → (Nat → Int32)
  | 0, w => w
  | k + 1, w => pDays T n m k (pDay T n m w)
def sumF (f : Nat → Int32) : Nat → Nat → Int32 → Int32
  | 0, _, s => s
  | k + 1, i, s => sumF f k (i + 1) (s + f i)
def pDy (w : Nat → Int32) : Nat → Nat → Int32
  | 0, _ => nI 1
  | k + 1, i => if nI 0 < pDb w i then nI 0 else pDy w k (i + 1)
def gOK (w : Nat → Int32) (n m : Nat) : Prop := n ≤ 8 ∧ m ≤ 8 ∧ w 10 = nI n ∧ w 11 = nI m ∧ ∀ j, j < m → nI 0 ≤ w (45 + 3 * j + 0)
theorem pDay_keep {T : gT} {n m o : Nat} {w : Nat → Int32} (hn : n ≤ 8) (hm : m ≤ 8) (h2 : ∀ j, j < 8 → o ≠ 13 + 4 * j + 2) (h3 : ∀ j, j < 8 → o ≠ 45 + 3 * j + 1 ∧ o ≠ 45 + 3 * j + 2) (h0 : o ≠ 0) (h1 : o ≠ 1) (h5 : o ≠ 5) (h6 : o ≠ 6) (h7 : o ≠ 7) (h8 : o ≠ 8) (h9 : o ≠ 9) : pDay T n m w o = w o := by
  unfold pDay
  split
  · rw [wS_miss h1, pWb_keep hn h2 h9 h3 _ _ _ (by omega), pLo_keep h2 h8 _ _ _ (by omega), pFa_keep h2 h6 h7 _ _ _ _ (by omega), wS_miss h0, wS_miss h5]
  · rw [wS_miss h1, pWb_keep hn h2 h9 h3 _ _ _ (by omega), pLo_keep h2 h8 _ _ _ (by omega), pFa_keep h2 h6 h7 _ _ _ _ (by omega), wS_miss h0, wS_miss h5]
theorem pDay_1 {T : gT} {n m : Nat} {w : Nat → Int32} : pDay T n m w 1 = w 1 + nI 1 := by
  unfold pDay
  split
  · rw [wS_hit rfl]
  · rw [wS_hit rfl]
theorem pDay_5 {T : gT} {n m : Nat} {w : Nat → Int32} (hn : n ≤ 8) (hm : m ≤ 8) : (pRn w → pDay T n m w 5 = nI 1) ∧ (¬ pRn w → pDay T n m w 5 = nI 0) := by
  unfold pDay
  constructor
  · intro h
    rw [if_pos h, wS_miss (by omega), pWb_keep hn (by omega) (by omega) (by omega) _ _ _ (by omega), pLo_keep (by omega) (by omega) _ _ _ (by omega), pFa_keep (by omega) (by omega) (by omega) _ _ _ _ (by omega), wS_miss (by omega), wS_hit rfl]
  · intro h
    rw [if_neg h, wS_miss (by omega), pWb_keep hn (by omega) (by omega) (by omega) _ _ _ (by omega), pLo_keep (by omega) (by omega) _ _ _ (by omega), pFa_keep (by omega) (by omega) (by omega) _ _ _ _ (by omega), wS_miss (by omega), wS_hit rfl]
theorem gOK_day {T : gT} {n m : Nat} {w : Nat → Int32} (h : gOK w n m) : gOK (pDay T n m w) n m := by
  obtain ⟨h1, h2, h3, h4, h5⟩ := h
  refine ⟨h1, h2, ?_, ?_, fun j hj => ?_⟩
  · rw [pDay_keep h1 h2 (by omega) (by omega) (by omega) (by omega) (by omega) (by omega) (by omega) (by omega) (by omega)]; exact h3
  · rw [pDay_keep h1 h2 (by omega) (by omega) (by omega) (by omega) (by omega) (by omega) (by omega) (by omega) (by omega)]; exact h4
  · rw [pDay_keep h1 h2 (by omega) (by omega) (by omega) (by omega) (by omega) (by omega) (by omega) (by omega) (by omega)]; exact h5 j hj
theorem gOK_days {T : gT} {n m : Nat} : ∀ (k : Nat) {w : Nat → Int32}, gOK w n m → gOK (pDays T n m k w) n m
  | 0, _, h => h
  | k + 1, _, h => gOK_days k (gOK_day h)
theorem sh_nn (z : Int32) : 0 ≤ (shI z).toInt := by
  unfold shI
  have h : ((z.toUInt32 >>> ((nI 8).toUInt32 &&& Int32.toUInt32 31)).toInt32).toInt = (z.toUInt32 >>> ((nI 8).toUInt32 &&& Int32.toUInt32 31)).toNat := by
    have e : ((nI 8).toUInt32 &&& Int32.toUInt32 31) = 8 := by decide
    rw [e]
    have hs : (z.toUInt32 >>> 8).toNat < 16777216 := by
      rw [UInt32.toNat_shiftRight]
      have := UInt32.toNat_lt z.toUInt32
      show z.toUInt32.toNat >>> (8 % 32) < 16777216
      rw [Nat.shiftRight_eq_div_pow]
      show z.toUInt32.toNat / 2 ^ 8 < 16777216
      omega
    have : (z.toUInt32 >>> 8).toInt32.toInt = Int.bmod (z.toUInt32 >>> 8).toNat (2 ^ 32) := by
      rw [← Int32.toInt_toBitVec, UInt32.toBitVec_toInt32, BitVec.toInt_eq_toNat_bmod, UInt32.toNat_toBitVec]
    rw [this]
    exact Int.bmod_eq_of_le (by omega) (by omega)
  rw [h]
  omega
theorem nI_clampI {x : Int32} (h : 0 ≤ x.toInt) : x = nI x.toNatClampNeg := by
  apply Int32.toInt_inj.mp
  have hh := hi_toInt x
  have e : (x.toNatClampNeg : Int) = x.toInt := by
    show ((x.toInt.toNat : Nat) : Int) = x.toInt
    omega
  rw [nI_toInt (by omega), e]
theorem nI_rem {a k : Nat} (hk : 0 < k) (ha : a < 2147483648) (hk2 : k < 2147483648) : nI a - nI a / nI k * nI k = nI (a % k) := by
  have e : nI a / nI k = nI (a / k) := by
    apply Int32.toInt_inj.mp
    have hd : a / k ≤ a := Nat.div_le_self a k
    rw [Int32.toInt_div, nI_toInt (by omega), nI_toInt (by omega), nI_toInt (by omega)]
    rw [Int.tdiv_eq_ediv_of_nonneg (by omega)]
    have : (a : Int) / (k : Int) = ((a / k : Nat) : Int) := by omega
    rw [this]
    clear this
    generalize a / k = q at hd ⊢
    exact Int.bmod_eq_of_le (by omega) (by omega)
  have hle : a / k * k ≤ a := Nat.div_mul_le_self a k
  rw [e, nI_mul, nI_sub hle]
  congr 1
  have := Nat.div_add_mod a k
  rw [Nat.mul_comm] at this
  omega
theorem dwX_nI {z : Int32} {k : Nat} (hk : 0 < k) (hk2 : k < 2147483648) : dwX z k = nI ((shI z).toNatClampNeg % k) := by
  have h := nI_clampI (sh_nn z)
  have hh := hi_toInt (shI z)
  have h3 := sh_nn z
  have e : (shI z).toNatClampNeg < 2147483648 := by
    show (shI z).toInt.toNat < 2147483648
    omega
  unfold dwX
  rw [h, nI_rem hk e hk2, nI_clamp (by omega)]
theorem pRr_le {z : Int32} : pRr z ≤ 9 := by
  unfold pRr
  omega
theorem pRr_nI {z : Int32} : nI 1 + dwX z 9 = nI (pRr z) := by rw [dwX_nI (by omega) (by omega), nI_add]; rfl
section C22
variable {X : List Int32} {d g i r n m : Nat} {u : gt_M} {w : Nat → Int32} {T : gT}
theorem c_bedsL (hg : g < 3) (hn8 : n ≤ 8) (hm8 : m ≤ 8) : ∀ (k j : Nat) (u : gt_M) (w : Nat → Int32) (v2 v3 : Value), j + k = m → gR u g w n m → w 10 = nI n → w 11 = nI m → (∀ j, j < m → nI 0 ≤ w (45 + 3 * j + 0)) → ∃ u', gm_ev X (d + 3) 20 2 [.ref (zGC g), .int (nI j), v2, v3] [] (gt_h u) = some (none, gt_h u') ∧ gR u' g (pWb n k j w) n m ∧ fG g u u' := by
  intro k
  induction k with
  | zero =>
    intro j u w v2 v3 hk hR hn hm h0
    refine ⟨u, ?_, hR, fG_refl⟩
    rw [bk_20_2]
    unfold gR at hR
    simp -implicitDefEqProofs (disch := first | (with_reducible first | exact rt_20 | exact na_21 | exact c1_i | exact c1_r | exact of_eq_false nf_zGC | exact of_eq_false nf_zBA | exact of_eq_false nf_zDA | exact of_eq_false nf_zCA | exact of_eq_false nf_zBC | exact of_eq_false nf_zDC | exact of_eq_false nf_zSC | exact of_eq_false nf_zSP | exact of_eq_false nf_zLC | exact of_eq_false nf_zLB | exact of_eq_false nf_zLS | exact of_eq_false nf_zLP | exact of_eq_false nf_zTR) | ((with_reducible refine (k_zGC ?_).trans mc_21.symm) <;> omega) | omega | exact Nat.le_of_ble_eq_true rfl | ((with_reducible refine nI_ne0 ?_ ?_) <;> omega)) only [bk_20_0, tn_0, bl_c0, bl_is1, tn_2, bl_il1, bl_al0, bf_zGC_5, bl_ic_ge, bf_zGC_2, br_zBA, br_zDA, br_2, br_85, br_86, br_121, br_122, bl_as2, bl_al2, bf_zDC_0, bl_iv2, bl_isub, bl_is3, bl_dupi, bl_dupr, bf_zDC_1, bl_il3, bl_iadd, bpf_zDC_1, bf_zGC_9, bl_c1, bl_ic_ne, bf_zGC_14, bpf_zGC_14, bl_goto, bk_20_77, tn_77, bf_zDC_2, bpf_zDC_2, bk_20_87, tn_87, bl_in1_1, bk_20_93, tn_93, bl_rv, Option.bind_some, Option.bind_none, Option.toList_some, Option.toList_none, List.cons_append, List.nil_append, not_false_eq_true, not_true_eq_false, nI_10, nI_00, bI_0, bI_n0, if_true, if_false, true_and, and_true, and_false, false_and, Classical.not_not, ↓reduceIte, eq_self, Nat.reduceAdd, Nat.reduceMul, bl_nil, z_lt, z_le, z_gt, z_ge, nI_add, nI_mul, nI_sub, L_lt, L_le, L_eq, L_e0, N_ltT, N_ltF, N_leT, N_leF, N_eqT, N_eqF, gs_hit, gs_miss, hR, hn, hm]
  | succ k ih =>
    intro j u w v2 v3 hk hR hn hm h0
    obtain ⟨u1, e1, R1, F1⟩ := c_drawn (X := X) (d := d) hg hn8 hR hn (h0 j (by omega))
    have k10 : pWa n w j 10 = w 10 := pWa_keep hn8 (by omega) (by omega) (by omega)
    have k11 : pWa n w j 11 = w 11 := pWa_keep hn8 (by omega) (by omega) (by omega)
    have kw : ∀ a, a < m → pWa n w j (45 + 3 * a + 0) = w (45 + 3 * a + 0) := fun a ha => pWa_keep hn8 (by omega) (by omega) (by omega)
    rw [pWb]
    unfold pWa at k10 k11 kw ⊢
    generalize hq : pDr n 0 w (w (45 + 3 * j + 0)) = q at *
    obtain ⟨q1, q2⟩ := q
    dsimp only at *
    by_cases c4 : q1 4 = nI 1
    · have hF := fG_set (o := 45 + 3 * j + 1) (x := q1 (45 + 3 * j + 1) + (q1 (45 + 3 * j + 0) - q2) + q2) (fG_set (o := 9) (x := q1 9 + q2) (fG_set (o := 45 + 3 * j + 1) (x := q1 (45 + 3 * j + 1) + (q1 (45 + 3 * j + 0) - q2)) F1 (by omega)) (by omega)) (by omega)
      have hR2 := gR_set (o := 45 + 3 * j + 1) (x := q1 (45 + 3 * j + 1) + (q1 (45 + 3 * j + 0) - q2) + q2) (gR_set (o := 9) (x := q1 9 + q2) (gR_set (o := 45 + 3 * j + 1) (x := q1 (45 + 3 * j + 1) + (q1 (45 + 3 * j + 0) - q2)) R1))
      have hR3 := gR_w (w' := pW3 q1 j q2) hR2 (fun o => by
        unfold pW3 pBo
        rw [if_pos c4]
        by_cases o1 : o = 45 + 3 * j + 1
        · rw [wS_hit o1, wS_miss (by omega), wS_miss (by omega), wS_hit o1]
          grind
        · by_cases o2 : o = 45 + 3 * j + 2
          · rw [wS_miss o1, wS_miss (by omega), wS_miss o1, wS_hit o2, o2]
            grind
          · rw [wS_miss o1, wS_miss o2]
            by_cases o9 : o = 9
            · rw [wS_hit o9, wS_hit o9]
            · rw [wS_miss o9, wS_miss o9, wS_miss o1, wS_miss o1])
      obtain ⟨u', e, hR', hF'⟩ := ih (j + 1) _ (pW3 q1 j q2) (.ref (zDC g j)) (.int q2) (by omega) hR3 (by rw [k10]; exact hn) (by rw [k11]; exact hm) (fun a ha => by rw [kw a ha]; exact h0 a ha)
      refine ⟨u', ?_, hR', fG_trans hF hF'⟩
      rw [← e, bk_20_2]
      unfold gR at hR R1
      simp -implicitDefEqProofs (disch := first | (with_reducible first | exact rt_20 | exact na_21 | exact c1_i | exact c1_r | exact of_eq_false nf_zGC | exact of_eq_false nf_zBA | exact of_eq_false nf_zDA | exact of_eq_false nf_zCA | exact of_eq_false nf_zBC | exact of_eq_false nf_zDC | exact of_eq_false nf_zSC | exact of_eq_false nf_zSP | exact of_eq_false nf_zLC | exact of_eq_false nf_zLB | exact of_eq_false nf_zLS | exact of_eq_false nf_zLP | exact of_eq_false nf_zTR) | ((with_reducible refine (k_zGC ?_).trans mc_21.symm) <;> omega) | omega | exact Nat.le_of_ble_eq_true rfl | ((with_reducible refine nI_ne0 ?_ ?_) <;> omega)) only [bk_20_0, tn_0, bl_c0, bl_is1, tn_2, bl_il1, bl_al0, bf_zGC_5, bl_ic_ge, bf_zGC_2, br_zBA, br_zDA, br_2, br_85, br_86, br_121, br_122, bl_as2, bl_al2, bf_zDC_0, bl_iv2, bl_isub, bl_is3, bl_dupi, bl_dupr, bf_zDC_1, bl_il3, bl_iadd, bpf_zDC_1, bf_zGC_9, bl_c1, bl_ic_ne, bf_zGC_14, bpf_zGC_14, bl_goto, bk_20_77, tn_77, bf_zDC_2, bpf_zDC_2, bk_20_87, tn_87, bl_in1_1, bk_20_93, tn_93, bl_rv, Option.bind_some, Option.bind_none, Option.toList_some, Option.toList_none, List.cons_append, List.nil_append, not_false_eq_true, not_true_eq_false, nI_10, nI_00, bI_0, bI_n0, if_true, if_false, true_and, and_true, and_false, false_and, Classical.not_not, ↓reduceIte, eq_self, Nat.reduceAdd, Nat.reduceMul, bl_nil, z_lt, z_le, z_gt, z_ge, nI_add, nI_mul, nI_sub, L_lt, L_le, L_eq, L_e0, N_ltT, N_ltF, N_leT, N_leF, N_eqT, N_eqF, gs_hit, gs_miss, hR, hn, hm, e1, R1, subsub, c4]
    · have hF := fG_set (o := 45 + 3 * j + 2) (x := q1 (45 + 3 * j + 2) + q2) (fG_set (o := 45 + 3 * j + 1) (x := q1 (45 + 3 * j + 1) + (q1 (45 + 3 * j + 0) - q2)) F1 (by omega)) (by omega)
      have hR2 := gR_set (o := 45 + 3 * j + 2) (x := q1 (45 + 3 * j + 2) + q2) (gR_set (o := 45 + 3 * j + 1) (x := q1 (45 + 3 * j + 1) + (q1 (45 + 3 * j + 0) - q2)) R1)
      have hR3 := gR_w (w' := pW3 q1 j q2) hR2 (fun o => by
        unfold pW3 pBo
        rw [if_neg c4]
        have z0 : nI 0 = 0 := rfl
        by_cases o2 : o = 45 + 3 * j + 2
        · rw [wS_hit o2, wS_hit o2, z0]
          grind
        · rw [wS_miss o2, wS_miss o2]
          by_cases o9 : o = 9
          · rw [wS_hit o9, wS_miss (by omega), o9, z0]
            grind
          · rw [wS_miss o9]
            by_cases o1 : o = 45 + 3 * j + 1
            · rw [wS_hit o1, wS_hit o1, z0]
              grind
            · rw [wS_miss o1, wS_miss o1])
      obtain ⟨u', e, hR', hF'⟩ := ih (j + 1) _ (pW3 q1 j q2) (.ref (zDC g j)) (.int q2) (by omega) hR3 (by rw [k10]; exact hn) (by rw [k11]; exact hm) (fun a ha => by rw [kw a ha]; exact h0 a ha)
      refine ⟨u', ?_, hR', fG_trans hF hF'⟩
      rw [← e, bk_20_2]
      unfold gR at hR R1
      simp -implicitDefEqProofs (disch := first | (with_reducible first | exact rt_20 | exact na_21 | exact c1_i | exact c1_r | exact of_eq_false nf_zGC | exact of_eq_false nf_zBA | exact of_eq_false nf_zDA | exact of_eq_false nf_zCA | exact of_eq_false nf_zBC | exact of_eq_false nf_zDC | exact of_eq_false nf_zSC | exact of_eq_false nf_zSP | exact of_eq_false nf_zLC | exact of_eq_false nf_zLB | exact of_eq_false nf_zLS | exact of_eq_false nf_zLP | exact of_eq_false nf_zTR) | ((with_reducible refine (k_zGC ?_).trans mc_21.symm) <;> omega) | omega | exact Nat.le_of_ble_eq_true rfl | ((with_reducible refine nI_ne0 ?_ ?_) <;> omega)) only [bk_20_0, tn_0, bl_c0, bl_is1, tn_2, bl_il1, bl_al0, bf_zGC_5, bl_ic_ge, bf_zGC_2, br_zBA, br_zDA, br_2, br_85, br_86, br_121, br_122, bl_as2, bl_al2, bf_zDC_0, bl_iv2, bl_isub, bl_is3, bl_dupi, bl_dupr, bf_zDC_1, bl_il3, bl_iadd, bpf_zDC_1, bf_zGC_9, bl_c1, bl_ic_ne, bf_zGC_14, bpf_zGC_14, bl_goto, bk_20_77, tn_77, bf_zDC_2, bpf_zDC_2, bk_20_87, tn_87, bl_in1_1, bk_20_93, tn_93, bl_rv, Option.bind_some, Option.bind_none, Option.toList_some, Option.toList_none, List.cons_append, List.nil_append, not_false_eq_true, not_true_eq_false, nI_10, nI_00, bI_0, bI_n0, if_true, if_false, true_and, and_true, and_false, false_and, Classical.not_not, ↓reduceIte, eq_self, Nat.reduceAdd, Nat.reduceMul, bl_nil, z_lt, z_le, z_gt, z_ge, nI_add, nI_mul, nI_sub, L_lt, L_le, L_eq, L_e0, N_ltT, N_ltF, N_leT, N_leF, N_eqT, N_eqF, gs_hit, gs_miss, hR, hn, hm, e1, R1, subsub, c4]
theorem c_beds (hg : g < 3) (hR : gR u g w n m) (h : gOK w n m) : ∃ u', gm_cl' X (d + 3) 20 [.ref (zGC g)] (gt_h u) = some (none, gt_h u') ∧ gR u' g (pWb n m 0 w) n m ∧ fG g u u' := by
  obtain ⟨u', e, h1, h2⟩ := c_bedsL (X := X) (d := d) hg h.1 h.2.1 m 0 u w (.retAddr 0) (.retAddr 0) (by omega) hR h.2.2.1 h.2.2.2.1 h.2.2.2.2
  refine ⟨u', ?_, h1, h2⟩
  rw [← e, cl_20]
  simp -implicitDefEqProofs (disch := first | (with_reducible first | exact rt_20 | exact na_21 | exact c1_i | exact c1_r | exact of_eq_false nf_zGC | exact of_eq_false nf_zBA | exact of_eq_false nf_zDA | exact of_eq_false nf_zCA | exact of_eq_false nf_zBC | exact of_eq_false nf_zDC | exact of_eq_false nf_zSC | exact of_eq_false nf_zSP | exact of_eq_false nf_zLC | exact of_eq_false nf_zLB | exact of_eq_false nf_zLS | exact of_eq_false nf_zLP | exact of_eq_false nf_zTR) | ((with_reducible refine (k_zGC ?_).trans mc_21.symm) <;> omega) | omega | exact Nat.le_of_ble_eq_true rfl | ((with_reducible refine nI_ne0 ?_ ?_) <;> omega)) only [bk_20_0, tn_0, bl_c0, bl_is1, tn_2, bl_il1, bl_al0, bf_zGC_5, bl_ic_ge, bf_zGC_2, br_zBA, br_zDA, br_2, br_85, br_86, br_121, br_122, bl_as2, bl_al2, bf_zDC_0, bl_iv2, bl_isub, bl_is3, bl_dupi, bl_dupr, bf_zDC_1, bl_il3, bl_iadd, bpf_zDC_1, bf_zGC_9, bl_c1, bl_ic_ne, bf_zGC_14, bpf_zGC_14, bl_goto, bk_20_77, tn_77, bf_zDC_2, bpf_zDC_2, bk_20_87, tn_87, bl_in1_1, bk_20_93, tn_93, bl_rv, Option.bind_some, Option.bind_none, Option.toList_some, Option.toList_none, List.cons_append, List.nil_append, not_false_eq_true, not_true_eq_false, nI_10, nI_00, bI_0, bI_n0, if_true, if_false, true_and, and_true, and_false, false_and, Classical.not_not, ↓reduceIte, eq_self, Nat.reduceAdd, Nat.reduceMul, bl_nil, z_lt, z_le, z_gt, z_ge, nI_add, nI_mul, nI_sub, L_lt, L_le, L_eq, L_e0, N_ltT, N_ltF, N_leT, N_leF, N_eqT, N_eqF, gs_hit, gs_miss]
theorem c_draw (hg : g < 3) : gm_cl' X d 13 [.ref (zGC g)] (gt_h u) = some (some (.int (shI (dwZ (u g 0)))), gt_h (gt_set u g 0 (dwZ (u g 0)))) := by
  rw [cl_13]
  unfold shI dwZ
  simp -implicitDefEqProofs (disch := first | (with_reducible first | exact rt_13 | exact c1_i | exact c1_r | exact of_eq_false nf_zGC | exact of_eq_false nf_zBA | exact of_eq_false nf_zDA | exact of_eq_false nf_zCA | exact of_eq_false nf_zBC | exact of_eq_false nf_zDC | exact of_eq_false nf_zSC | exact of_eq_false nf_zSP | exact of_eq_false nf_zLC | exact of_eq_false nf_zLB | exact of_eq_false nf_zLS | exact of_eq_false nf_zLP | exact of_eq_false nf_zTR) | omega | exact Nat.le_of_ble_eq_true rfl | ((with_reducible refine nI_ne0 ?_ ?_) <;> omega)) only [bk_13_0, tn_0, bl_al0, bf_zGC_16, bl_c1103515245, bl_imul, bl_c12345, bl_iadd, bpf_zGC_16, bl_c8, bl_iushr, bl_ri, bl_rz, bl_rz1, bl_rz0, Option.bind_some, Option.bind_none, Option.toList_some, Option.toList_none, List.cons_append, List.nil_append, not_false_eq_true, not_true_eq_false, nI_10, nI_00, bI_0, bI_n0, if_true, if_false, true_and, and_true, and_false, false_and, Classical.not_not, ↓reduceIte, eq_self, Nat.reduceAdd, Nat.reduceMul, bl_nil, z_lt, z_le, z_gt, z_ge, nI_add, nI_mul, nI_sub, L_lt, L_le, L_eq, L_e0, N_ltT, N_ltF, N_leT, N_leF, N_eqT, N_eqF, gs_hit, gs_miss]
theorem c_allHoldL (hg : g < 3) (hn8 : n ≤ 8) (hn : u g 10 = nI n) : ∀ (k i : Nat) (s : Int32), i + k = n → gm_ev X d 23 4 [.ref (zGC g), .int s, .int (nI i)] [] (gt_h u) = some (some (.int (sumF (fun i => u g (13 + 4 * i + 2)) k i s)), gt_h u) := by
  intro k
  induction k with
  | zero =>
    intro i s hk
    rw [bk_23_4]
    simp -implicitDefEqProofs (disch := first | (with_reducible first | exact rt_23 | exact c1_i | exact c1_r | exact of_eq_false nf_zGC | exact of_eq_false nf_zBA | exact of_eq_false nf_zDA | exact of_eq_false nf_zCA | exact of_eq_false nf_zBC | exact of_eq_false nf_zDC | exact of_eq_false nf_zSC | exact of_eq_false nf_zSP | exact of_eq_false nf_zLC | exact of_eq_false nf_zLB | exact of_eq_false nf_zLS | exact of_eq_false nf_zLP | exact of_eq_false nf_zTR) | omega | exact Nat.le_of_ble_eq_true rfl | ((with_reducible refine nI_ne0 ?_ ?_) <;> omega)) only [bk_23_0, tn_0, bl_c0, bl_is1, bl_is2, tn_4, bl_il2, bl_al0, bf_zGC_4, bl_ic_ge, bl_il1, bf_zGC_1, br_zBA, br_zDA, br_2, br_85, br_86, br_121, br_122, bf_zBC_2, bf_zLB_2, bl_iadd, bl_in2_1, bl_goto, bk_23_30, tn_30, bl_ri, bl_rz, bl_rz1, bl_rz0, Option.bind_some, Option.bind_none, Option.toList_some, Option.toList_none, List.cons_append, List.nil_append, not_false_eq_true, not_true_eq_false, nI_10, nI_00, bI_0, bI_n0, if_true, if_false, true_and, and_true, and_false, false_and, Classical.not_not, ↓reduceIte, eq_self, Nat.reduceAdd, Nat.reduceMul, bl_nil, z_lt, z_le, z_gt, z_ge, nI_add, nI_mul, nI_sub, L_lt, L_le, L_eq, L_e0, N_ltT, N_ltF, N_leT, N_leF, N_eqT, N_eqF, gs_hit, gs_miss, hn, sumF]
  | succ k ih =>
    intro i s hk
    rw [sumF, ← ih (i + 1) _ (by omega), bk_23_4]
    simp -implicitDefEqProofs (disch := first | (with_reducible first | exact rt_23 | exact c1_i | exact c1_r | exact of_eq_false nf_zGC | exact of_eq_false nf_zBA | exact of_eq_false nf_zDA | exact of_eq_false nf_zCA | exact of_eq_false nf_zBC | exact of_eq_false nf_zDC | exact of_eq_false nf_zSC | exact of_eq_false nf_zSP | exact of_eq_false nf_zLC | exact of_eq_false nf_zLB | exact of_eq_false nf_zLS | exact of_eq_false nf_zLP | exact of_eq_false nf_zTR) | omega | exact Nat.le_of_ble_eq_true rfl | ((with_reducible refine nI_ne0 ?_ ?_) <;> omega)) only [bk_23_0, tn_0, bl_c0, bl_is1, bl_is2, tn_4, bl_il2, bl_al0, bf_zGC_4, bl_ic_ge, bl_il1, bf_zGC_1, br_zBA, br_zDA, br_2, br_85, br_86, br_121, br_122, bf_zBC_2, bf_zLB_2, bl_iadd, bl_in2_1, bl_goto, bk_23_30, tn_30, bl_ri, bl_rz, bl_rz1, bl_rz0, Option.bind_some, Option.bind_none, Option.toList_some, Option.toList_none, List.cons_append, List.nil_append, not_false_eq_true, not_true_eq_false, nI_10, nI_00, bI_0, bI_n0, if_true, if_false, true_and, and_true, and_false, false_and, Classical.not_not, ↓reduceIte, eq_self, Nat.reduceAdd, Nat.reduceMul, bl_nil, z_lt, z_le, z_gt, z_ge, nI_add, nI_mul, nI_sub, L_lt, L_le, L_eq, L_e0, N_ltT, N_ltF, N_leT, N_leF, N_eqT, N_eqF, gs_hit, gs_miss, hn]
theorem sumF_w {f f' : Nat → Int32} : ∀ (k i : Nat) (s : Int32), (∀ j, j < i + k → f j = f' j) → sumF f k i s = sumF f' k i s := by
  intro k
  induction k with
  | zero => intro i s _; rfl
  | succ k ih => intro i s h; rw [sumF, sumF, h i (by omega), ih _ _ (fun j hj => h j (by omega))]
theorem c_allHold (hg : g < 3) (hR : gR u g w n m) (h : gOK w n m) : gm_cl' X d 23 [.ref (zGC g)] (gt_h u) = some (some (.int (sumF (fun i => w (13 + 4 * i + 2)) n 0 (nI 0))), gt_h u) := by
  rw [cl_23, ← sumF_w n 0 (nI 0) (fun j hj => hR (13 + 4 * j + 2) (by omega)), ← c_allHoldL (X := X) (d := d) hg h.1 (by rw [hR 10 (by omega)]; exact h.2.2.1) n 0 (nI 0) (by omega)]
  simp -implicitDefEqProofs (disch := first | (with_reducible first | exact rt_23 | exact c1_i | exact c1_r | exact of_eq_false nf_zGC | exact of_eq_false nf_zBA | exact of_eq_false nf_zDA | exact of_eq_false nf_zCA | exact of_eq_false nf_zBC | exact of_eq_false nf_zDC | exact of_eq_false nf_zSC | exact of_eq_false nf_zSP | exact of_eq_false nf_zLC | exact of_eq_false nf_zLB | exact of_eq_false nf_zLS | exact of_eq_false nf_zLP | exact of_eq_false nf_zTR) | omega | exact Nat.le_of_ble_eq_true rfl | ((with_reducible refine nI_ne0 ?_ ?_) <;> omega)) only [bk_23_0, tn_0, bl_c0, bl_is1, bl_is2, tn_4, bl_il2, bl_al0, bf_zGC_4, bl_ic_ge, bl_il1, bf_zGC_1, br_zBA, br_zDA, br_2, br_85, br_86, br_121, br_122, bf_zBC_2, bf_zLB_2, bl_iadd, bl_in2_1, bl_goto, bk_23_30, tn_30, bl_ri, bl_rz, bl_rz1, bl_rz0, Option.bind_some, Option.bind_none, Option.toList_some, Option.toList_none, List.cons_append, List.nil_append, not_false_eq_true, not_true_eq_false, nI_10, nI_00, bI_0, bI_n0, if_true, if_false, true_and, and_true, and_false, false_and, Classical.not_not, ↓reduceIte, eq_self, Nat.reduceAdd, Nat.reduceMul, bl_nil, z_lt, z_le, z_gt, z_ge, nI_add, nI_mul, nI_sub, L_lt, L_le, L_eq, L_e0, N_ltT, N_ltF, N_leT, N_leF, N_eqT, N_eqF, gs_hit, gs_miss]
theorem c_allHadL (hg : g < 3) (hn8 : m ≤ 8) (hn : u g 11 = nI m) : ∀ (k i : Nat) (s : Int32), i + k = m → gm_ev X d 24 4 [.ref (zGC g), .int s, .int (nI i)] [] (gt_h u) = some (some (.int (sumF (fun i => u g (45 + 3 * i + 1)) k i s)), gt_h u) := by
  intro k
  induction k with
  | zero =>
    intro i s hk
    rw [bk_24_4]
    simp -implicitDefEqProofs (disch := first | (with_reducible first | exact rt_24 | exact c1_i | exact c1_r | exact of_eq_false nf_zGC | exact of_eq_false nf_zBA | exact of_eq_false nf_zDA | exact of_eq_false nf_zCA | exact of_eq_false nf_zBC | exact of_eq_false nf_zDC | exact of_eq_false nf_zSC | exact of_eq_false nf_zSP | exact of_eq_false nf_zLC | exact of_eq_false nf_zLB | exact of_eq_false nf_zLS | exact of_eq_false nf_zLP | exact of_eq_false nf_zTR) | omega | exact Nat.le_of_ble_eq_true rfl | ((with_reducible refine nI_ne0 ?_ ?_) <;> omega)) only [bk_24_0, tn_0, bl_c0, bl_is1, bl_is2, tn_4, bl_il2, bl_al0, bf_zGC_5, bl_ic_ge, bl_il1, bf_zGC_2, br_zBA, br_zDA, br_2, br_85, br_86, br_121, br_122, bf_zDC_1, bl_iadd, bl_in2_1, bl_goto, bk_24_30, tn_30, bl_ri, bl_rz, bl_rz1, bl_rz0, Option.bind_some, Option.bind_none, Option.toList_some, Option.toList_none, List.cons_append, List.nil_append, not_false_eq_true, not_true_eq_false, nI_10, nI_00, bI_0, bI_n0, if_true, if_false, true_and, and_true, and_false, false_and, Classical.not_not, ↓reduceIte, eq_self, Nat.reduceAdd, Nat.reduceMul, bl_nil, z_lt, z_le, z_gt, z_ge, nI_add, nI_mul, nI_sub, L_lt, L_le, L_eq, L_e0, N_ltT, N_ltF, N_leT, N_leF, N_eqT, N_eqF, gs_hit, gs_miss, hn, sumF]
  | succ k ih =>
    intro i s hk
    rw [sumF, ← ih (i + 1) _ (by omega), bk_24_4]
    simp -implicitDefEqProofs (disch := first | (with_reducible first | exact rt_24 | exact c1_i | exact c1_r | exact of_eq_false nf_zGC | exact of_eq_false nf_zBA | exact of_eq_false nf_zDA | exact of_eq_false nf_zCA | exact of_eq_false nf_zBC | exact of_eq_false nf_zDC | exact of_eq_false nf_zSC | exact of_eq_false nf_zSP | exact of_eq_false nf_zLC | exact of_eq_false nf_zLB | exact of_eq_false nf_zLS | exact of_eq_false nf_zLP | exact of_eq_false nf_zTR) | omega | exact Nat.le_of_ble_eq_true rfl | ((with_reducible refine nI_ne0 ?_ ?_) <;> omega)) only [bk_24_0, tn_0, bl_c0, bl_is1, bl_is2, tn_4, bl_il2, bl_al0, bf_zGC_5, bl_ic_ge, bl_il1, bf_zGC_2, br_zBA, br_zDA, br_2, br_85, br_86, br_121, br_122, bf_zDC_1, bl_iadd, bl_in2_1, bl_goto, bk_24_30, tn_30, bl_ri, bl_rz, bl_rz1, bl_rz0, Option.bind_some, Option.bind_none, Option.toList_some, Option.toList_none, List.cons_append, List.nil_append, not_false_eq_true, not_true_eq_false, nI_10, nI_00, bI_0, bI_n0, if_true, if_false, true_and, and_true, and_false, false_and, Classical.not_not, ↓reduceIte, eq_self, Nat.reduceAdd, Nat.reduceMul, bl_nil, z_lt, z_le, z_gt, z_ge, nI_add, nI_mul, nI_sub, L_lt, L_le, L_eq, L_e0, N_ltT, N_ltF, N_leT, N_leF, N_eqT, N_eqF, gs_hit, gs_miss, hn]
theorem c_allHad (hg : g < 3) (hR : gR u g w n m) (h : gOK w n m) : gm_cl' X d 24 [.ref (zGC g)] (gt_h u) = some (some (.int (sumF (fun i => w (45 + 3 * i + 1)) m 0 (nI 0))), gt_h u) := by
  rw [cl_24, ← sumF_w m 0 (nI 0) (fun j hj => hR (45 + 3 * j + 1) (by omega)), ← c_allHadL (X := X) (d := d) hg h.2.1 (by rw [hR 11 (by omega)]; exact h.2.2.2.1) m 0 (nI 0) (by omega)]
  simp -implicitDefEqProofs (disch := first | (with_reducible first | exact rt_24 | exact c1_i | exact c1_r | exact of_eq_false nf_zGC | exact of_eq_false nf_zBA | exact of_eq_false nf_zDA | exact of_eq_false nf_zCA | exact of_eq_false nf_zBC | exact of_eq_false nf_zDC | exact of_eq_false nf_zSC | exact of_eq_false nf_zSP | exact of_eq_false nf_zLC | exact of_eq_false nf_zLB | exact of_eq_false nf_zLS | exact of_eq_false nf_zLP | exact of_eq_false nf_zTR) | omega | exact Nat.le_of_ble_eq_true rfl | ((with_reducible refine nI_ne0 ?_ ?_) <;> omega)) only [bk_24_0, tn_0, bl_c0, bl_is1, bl_is2, tn_4, bl_il2, bl_al0, bf_zGC_5, bl_ic_ge, bl_il1, bf_zGC_2, br_zBA, br_zDA, br_2, br_85, br_86, br_121, br_122, bf_zDC_1, bl_iadd, bl_in2_1, bl_goto, bk_24_30, tn_30, bl_ri, bl_rz, bl_rz1, bl_rz0, Option.bind_some, Option.bind_none, Option.toList_some, Option.toList_none, List.cons_append, List.nil_append, not_false_eq_true, not_true_eq_false, nI_10, nI_00, bI_0, bI_n0, if_true, if_false, true_and, and_true, and_false, false_and, Classical.not_not, ↓reduceIte, eq_self, Nat.reduceAdd, Nat.reduceMul, bl_nil, z_lt, z_le, z_gt, z_ge, nI_add, nI_mul, nI_sub, L_lt, L_le, L_eq, L_e0, N_ltT, N_ltF, N_leT, N_leF, N_eqT, N_eqF, gs_hit, gs_miss]
theorem c_allLackedL (hg : g < 3) (hn8 : m ≤ 8) (hn : u g 11 = nI m) : ∀ (k i : Nat) (s : Int32), i + k = m → gm_ev X d 25 4 [.ref (zGC g), .int s, .int (nI i)] [] (gt_h u) = some (some (.int (sumF (fun i => u g (45 + 3 * i + 2)) k i s)), gt_h u) := by
  intro k
  induction k with
  | zero =>
    intro i s hk
    rw [bk_25_4]
    simp -implicitDefEqProofs (disch := first | (with_reducible first | exact rt_25 | exact c1_i | exact c1_r | exact of_eq_false nf_zGC | exact of_eq_false nf_zBA | exact of_eq_false nf_zDA | exact of_eq_false nf_zCA | exact of_eq_false nf_zBC | exact of_eq_false nf_zDC | exact of_eq_false nf_zSC | exact of_eq_false nf_zSP | exact of_eq_false nf_zLC | exact of_eq_false nf_zLB | exact of_eq_false nf_zLS | exact of_eq_false nf_zLP | exact of_eq_false nf_zTR) | omega | exact Nat.le_of_ble_eq_true rfl | ((with_reducible refine nI_ne0 ?_ ?_) <;> omega)) only [bk_25_0, tn_0, bl_c0, bl_is1, bl_is2, tn_4, bl_il2, bl_al0, bf_zGC_5, bl_ic_ge, bl_il1, bf_zGC_2, br_zBA, br_zDA, br_2, br_85, br_86, br_121, br_122, bf_zDC_2, bl_iadd, bl_in2_1, bl_goto, bk_25_30, tn_30, bl_ri, bl_rz, bl_rz1, bl_rz0, Option.bind_some, Option.bind_none, Option.toList_some, Option.toList_none, List.cons_append, List.nil_append, not_false_eq_true, not_true_eq_false, nI_10, nI_00, bI_0, bI_n0, if_true, if_false, true_and, and_true, and_false, false_and, Classical.not_not, ↓reduceIte, eq_self, Nat.reduceAdd, Nat.reduceMul, bl_nil, z_lt, z_le, z_gt, z_ge, nI_add, nI_mul, nI_sub, L_lt, L_le, L_eq, L_e0, N_ltT, N_ltF, N_leT, N_leF, N_eqT, N_eqF, gs_hit, gs_miss, hn, sumF]
  | succ k ih =>
    intro i s hk
    rw [sumF, ← ih (i + 1) _ (by omega), bk_25_4]
    simp -implicitDefEqProofs (disch := first | (with_reducible first | exact rt_25 | exact c1_i | exact c1_r | exact of_eq_false nf_zGC | exact of_eq_false nf_zBA | exact of_eq_false nf_zDA | exact of_eq_false nf_zCA | exact of_eq_false nf_zBC | exact of_eq_false nf_zDC | exact of_eq_false nf_zSC | exact of_eq_false nf_zSP | exact of_eq_false nf_zLC | exact of_eq_false nf_zLB | exact of_eq_false nf_zLS | exact of_eq_false nf_zLP | exact of_eq_false nf_zTR) | omega | exact Nat.le_of_ble_eq_true rfl | ((with_reducible refine nI_ne0 ?_ ?_) <;> omega)) only [bk_25_0, tn_0, bl_c0, bl_is1, bl_is2, tn_4, bl_il2, bl_al0, bf_zGC_5, bl_ic_ge, bl_il1, bf_zGC_2, br_zBA, br_zDA, br_2, br_85, br_86, br_121, br_122, bf_zDC_2, bl_iadd, bl_in2_1, bl_goto, bk_25_30, tn_30, bl_ri, bl_rz, bl_rz1, bl_rz0, Option.bind_some, Option.bind_none, Option.toList_some, Option.toList_none, List.cons_append, List.nil_append, not_false_eq_true, not_true_eq_false, nI_10, nI_00, bI_0, bI_n0, if_true, if_false, true_and, and_true, and_false, false_and, Classical.not_not, ↓reduceIte, eq_self, Nat.reduceAdd, Nat.reduceMul, bl_nil, z_lt, z_le, z_gt, z_ge, nI_add, nI_mul, nI_sub, L_lt, L_le, L_eq, L_e0, N_ltT, N_ltF, N_leT, N_leF, N_eqT, N_eqF, gs_hit, gs_miss, hn]
def pLk (w : Nat → Int32) (m : Nat) : Int32 := sumF (fun i => w (45 + 3 * i + 2)) m 0 (nI 0)
def pHl (w : Nat → Int32) (n : Nat) : Int32 := sumF (fun i => w (13 + 4 * i + 2)) n 0 (nI 0)
theorem c_allLacked (hg : g < 3) (hR : gR u g w n m) (h : gOK w n m) : gm_cl' X d 25 [.ref (zGC g)] (gt_h u) = some (some (.int (pLk w m)), gt_h u) := by
  unfold pLk
  rw [cl_25, ← sumF_w m 0 (nI 0) (fun j hj => hR (45 + 3 * j + 2) (by omega)), ← c_allLackedL (X := X) (d := d) hg h.2.1 (by rw [hR 11 (by omega)]; exact h.2.2.2.1) m 0 (nI 0) (by omega)]
  simp -implicitDefEqProofs (disch := first | (with_reducible first | exact rt_25 | exact c1_i | exact c1_r | exact of_eq_false nf_zGC | exact of_eq_false nf_zBA | exact of_eq_false nf_zDA | exact of_eq_false nf_zCA | exact of_eq_false nf_zBC | exact of_eq_false nf_zDC | exact of_eq_false nf_zSC | exact of_eq_false nf_zSP | exact of_eq_false nf_zLC | exact of_eq_false nf_zLB | exact of_eq_false nf_zLS | exact of_eq_false nf_zLP | exact of_eq_false nf_zTR) | omega | exact Nat.le_of_ble_eq_true rfl | ((with_reducible refine nI_ne0 ?_ ?_) <;> omega)) only [bk_25_0, tn_0, bl_c0, bl_is1, bl_is2, tn_4, bl_il2, bl_al0, bf_zGC_5, bl_ic_ge, bl_il1, bf_zGC_2, br_zBA, br_zDA, br_2, br_85, br_86, br_121, br_122, bf_zDC_2, bl_iadd, bl_in2_1, bl_goto, bk_25_30, tn_30, bl_ri, bl_rz, bl_rz1, bl_rz0, Option.bind_some, Option.bind_none, Option.toList_some, Option.toList_none, List.cons_append, List.nil_append, not_false_eq_true, not_true_eq_false, nI_10, nI_00, bI_0, bI_n0, if_true, if_false, true_and, and_true, and_false, false_and, Classical.not_not, ↓reduceIte, eq_self, Nat.reduceAdd, Nat.reduceMul, bl_nil, z_lt, z_le, z_gt, z_ge, nI_add, nI_mul, nI_sub, L_lt, L_le, L_eq, L_e0, N_ltT, N_ltF, N_leT, N_leF, N_eqT, N_eqF, gs_hit, gs_miss]
theorem c_dryL (hg : g < 3) (hn8 : n ≤ 8) (hR : gR u g w n m) (hn : w 10 = nI n) : ∀ (k i : Nat), i + k = n → gm_ev X (d + 2) 22 2 [.ref (zGC g), .int (nI i)] [] (gt_h u) = some (some (.int (pDy w k i)), gt_h u) := by
  unfold gR at hR
  intro k
  induction k with
  | zero =>
    intro i hk
    rw [bk_22_2]
    simp -implicitDefEqProofs (disch := first | (with_reducible first | exact rt_22 | exact na_5 | exact c1_i | exact c1_r | exact of_eq_false nf_zGC | exact of_eq_false nf_zBA | exact of_eq_false nf_zDA | exact of_eq_false nf_zCA | exact of_eq_false nf_zBC | exact of_eq_false nf_zDC | exact of_eq_false nf_zSC | exact of_eq_false nf_zSP | exact of_eq_false nf_zLC | exact of_eq_false nf_zLB | exact of_eq_false nf_zLS | exact of_eq_false nf_zLP | exact of_eq_false nf_zTR) | ((with_reducible refine (k_zBC ?_ ?_).trans mc_5.symm) <;> omega) | ((with_reducible refine (k_zLB ?_).trans mc_5.symm) <;> omega) | omega | exact Nat.le_of_ble_eq_true rfl | ((with_reducible refine nI_ne0 ?_ ?_) <;> omega)) only [bk_22_0, tn_0, bl_c0, bl_is1, tn_2, bl_il1, bl_al0, bf_zGC_4, bl_ic_ge, bf_zGC_1, br_zBA, br_zDA, br_2, br_85, br_86, br_121, br_122, bl_iv1, bl_if_le, bl_ri, bl_rz, bl_rz1, bl_rz0, bk_22_24, tn_24, bl_in1_1, bl_goto, bk_22_30, tn_30, bl_c1, Option.bind_some, Option.bind_none, Option.toList_some, Option.toList_none, List.cons_append, List.nil_append, not_false_eq_true, not_true_eq_false, nI_10, nI_00, bI_0, bI_n0, if_true, if_false, true_and, and_true, and_false, false_and, Classical.not_not, ↓reduceIte, eq_self, Nat.reduceAdd, Nat.reduceMul, bl_nil, z_lt, z_le, z_gt, z_ge, nI_add, nI_mul, nI_sub, L_lt, L_le, L_eq, L_e0, N_ltT, N_ltF, N_leT, N_leF, N_eqT, N_eqF, gs_hit, gs_miss, hR, hn, pDy]
  | succ k ih =>
    intro i hk
    rw [pDy]
    by_cases hz : nI 0 < pDb w i
    · rw [if_pos hz, bk_22_2]
      have hz' : ¬ mxI (nI 0) (w (13 + 4 * i + 2) - w (13 + 4 * i + 3)) ≤ nI 0 := Int32.not_le.mpr hz
      simp -implicitDefEqProofs (disch := first | (with_reducible first | exact rt_22 | exact na_5 | exact c1_i | exact c1_r | exact of_eq_false nf_zGC | exact of_eq_false nf_zBA | exact of_eq_false nf_zDA | exact of_eq_false nf_zCA | exact of_eq_false nf_zBC | exact of_eq_false nf_zDC | exact of_eq_false nf_zSC | exact of_eq_false nf_zSP | exact of_eq_false nf_zLC | exact of_eq_false nf_zLB | exact of_eq_false nf_zLS | exact of_eq_false nf_zLP | exact of_eq_false nf_zTR) | ((with_reducible refine (k_zBC ?_ ?_).trans mc_5.symm) <;> omega) | ((with_reducible refine (k_zLB ?_).trans mc_5.symm) <;> omega) | omega | exact Nat.le_of_ble_eq_true rfl | ((with_reducible refine nI_ne0 ?_ ?_) <;> omega)) only [bk_22_0, tn_0, bl_c0, bl_is1, tn_2, bl_il1, bl_al0, bf_zGC_4, bl_ic_ge, bf_zGC_1, br_zBA, br_zDA, br_2, br_85, br_86, br_121, br_122, bl_iv1, bl_if_le, bl_ri, bl_rz, bl_rz1, bl_rz0, bk_22_24, tn_24, bl_in1_1, bl_goto, bk_22_30, tn_30, bl_c1, Option.bind_some, Option.bind_none, Option.toList_some, Option.toList_none, List.cons_append, List.nil_append, not_false_eq_true, not_true_eq_false, nI_10, nI_00, bI_0, bI_n0, if_true, if_false, true_and, and_true, and_false, false_and, Classical.not_not, ↓reduceIte, eq_self, Nat.reduceAdd, Nat.reduceMul, bl_nil, z_lt, z_le, z_gt, z_ge, nI_add, nI_mul, nI_sub, L_lt, L_le, L_eq, L_e0, N_ltT, N_ltF, N_leT, N_leF, N_eqT, N_eqF, gs_hit, gs_miss, hR, hn, c_drawable, hz']
    · rw [if_neg hz, ← ih (i + 1) (by omega), bk_22_2]
      have hz' : mxI (nI 0) (w (13 + 4 * i + 2) - w (13 + 4 * i + 3)) ≤ nI 0 := Int32.not_lt.mp hz
      simp -implicitDefEqProofs (disch := first | (with_reducible first | exact rt_22 | exact na_5 | exact c1_i | exact c1_r | exact of_eq_false nf_zGC | exact of_eq_false nf_zBA | exact of_eq_false nf_zDA | exact of_eq_false nf_zCA | exact of_eq_false nf_zBC | exact of_eq_false nf_zDC | exact of_eq_false nf_zSC | exact of_eq_false nf_zSP | exact of_eq_false nf_zLC | exact of_eq_false nf_zLB | exact of_eq_false nf_zLS | exact of_eq_false nf_zLP | exact of_eq_false nf_zTR) | ((with_reducible refine (k_zBC ?_ ?_).trans mc_5.symm) <;> omega) | ((with_reducible refine (k_zLB ?_).trans mc_5.symm) <;> omega) | omega | exact Nat.le_of_ble_eq_true rfl | ((with_reducible refine nI_ne0 ?_ ?_) <;> omega)) only [bk_22_0, tn_0, bl_c0, bl_is1, tn_2, bl_il1, bl_al0, bf_zGC_4, bl_ic_ge, bf_zGC_1, br_zBA, br_zDA, br_2, br_85, br_86, br_121, br_122, bl_iv1, bl_if_le, bl_ri, bl_rz, bl_rz1, bl_rz0, bk_22_24, tn_24, bl_in1_1, bl_goto, bk_22_30, tn_30, bl_c1, Option.bind_some, Option.bind_none, Option.toList_some, Option.toList_none, List.cons_append, List.nil_append, not_false_eq_true, not_true_eq_false, nI_10, nI_00, bI_0, bI_n0, if_true, if_false, true_and, and_true, and_false, false_and, Classical.not_not, ↓reduceIte, eq_self, Nat.reduceAdd, Nat.reduceMul, bl_nil, z_lt, z_le, z_gt, z_ge, nI_add, nI_mul, nI_sub, L_lt, L_le, L_eq, L_e0, N_ltT, N_ltF, N_leT, N_leF, N_eqT, N_eqF, gs_hit, gs_miss, hR, hn, c_drawable, hz']
theorem c_dry (hg : g < 3) (hR : gR u g w n m) (h : gOK w n m) : gm_cl' X (d + 2) 22 [.ref (zGC g)] (gt_h u) = some (some (.int (pDy w n 0)), gt_h u) := by
  rw [cl_22, ← c_dryL (X := X) (d := d) hg h.1 hR h.2.2.1 n 0 (by omega)]
  simp -implicitDefEqProofs (disch := first | (with_reducible first | exact rt_22 | exact na_5 | exact c1_i | exact c1_r | exact of_eq_false nf_zGC | exact of_eq_false nf_zBA | exact of_eq_false nf_zDA | exact of_eq_false nf_zCA | exact of_eq_false nf_zBC | exact of_eq_false nf_zDC | exact of_eq_false nf_zSC | exact of_eq_false nf_zSP | exact of_eq_false nf_zLC | exact of_eq_false nf_zLB | exact of_eq_false nf_zLS | exact of_eq_false nf_zLP | exact of_eq_false nf_zTR) | ((with_reducible refine (k_zBC ?_ ?_).trans mc_5.symm) <;> omega) | ((with_reducible refine (k_zLB ?_).trans mc_5.symm) <;> omega) | omega | exact Nat.le_of_ble_eq_true rfl | ((with_reducible refine nI_ne0 ?_ ?_) <;> omega)) only [bk_22_0, tn_0, bl_c0, bl_is1, tn_2, bl_il1, bl_al0, bf_zGC_4, bl_ic_ge, bf_zGC_1, br_zBA, br_zDA, br_2, br_85, br_86, br_121, br_122, bl_iv1, bl_if_le, bl_ri, bl_rz, bl_rz1, bl_rz0, bk_22_24, tn_24, bl_in1_1, bl_goto, bk_22_30, tn_30, bl_c1, Option.bind_some, Option.bind_none, Option.toList_some, Option.toList_none, List.cons_append, List.nil_append, not_false_eq_true, not_true_eq_false, nI_10, nI_00, bI_0, bI_n0, if_true, if_false, true_and, and_true, and_false, false_and, Classical.not_not, ↓reduceIte, eq_self, Nat.reduceAdd, Nat.reduceMul, bl_nil, z_lt, z_le, z_gt, z_ge, nI_add, nI_mul, nI_sub, L_lt, L_le, L_eq, L_e0, N_ltT, N_ltF, N_leT, N_leF, N_eqT, N_eqF, gs_hit, gs_miss]
end C22
