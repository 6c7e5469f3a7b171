-- texts: what the reference makes of them
theorem nm_lt {j : Nat} (hj : j < 3) : (-10 + nI j < nI 0) = True := by
  have : j = 0 ∨ j = 1 ∨ j = 2 := by omega
  rcases this with rfl | rfl | rfl <;> exact eq_true (by decide)
theorem nm_ge {j : Nat} (hj : j < 3) : (-10 + nI j < -10) = False := by
  have : j = 0 ∨ j = 1 ∨ j = 2 := by omega
  rcases this with rfl | rfl | rfl <;> exact eq_false (by decide)
theorem nm_ix {j : Nat} (hj : j < 3) : -10 + nI j - -10 = nI j := by
  have : j = 0 ∨ j = 1 ∨ j = 2 := by omega
  rcases this with rfl | rfl | rfl <;> decide
theorem m29_lt : ((-29 : Int32) < nI 0) = True := eq_true (by decide)
theorem m29_l10 : ((-29 : Int32) < -10) = True := eq_true (by decide)
theorem op_lt {o : Nat} {y : Int32} (h : opR o y) : (y < nI 0) = True := by
  rcases h with ⟨_, rfl⟩ | ⟨_, rfl⟩ | ⟨_, rfl⟩ | ⟨_, rfl⟩ | ⟨_, rfl⟩ | ⟨_, rfl⟩ | ⟨_, rfl⟩ | ⟨_, rfl⟩ | ⟨_, rfl⟩ <;> exact eq_true (by decide)
theorem op_l10 {o : Nat} {y : Int32} (h : opR o y) : (y < -10) = True := by
  rcases h with ⟨_, rfl⟩ | ⟨_, rfl⟩ | ⟨_, rfl⟩ | ⟨_, rfl⟩ | ⟨_, rfl⟩ | ⟨_, rfl⟩ | ⟨_, rfl⟩ | ⟨_, rfl⟩ | ⟨_, rfl⟩ <;> exact eq_true (by decide)
theorem op_n29 {o : Nat} {y : Int32} (h : opR o y) : (y = -29) = False := by
  rcases h with ⟨_, rfl⟩ | ⟨_, rfl⟩ | ⟨_, rfl⟩ | ⟨_, rfl⟩ | ⟨_, rfl⟩ | ⟨_, rfl⟩ | ⟨_, rfl⟩ | ⟨_, rfl⟩ | ⟨_, rfl⟩ <;> exact eq_false (by decide)
theorem op_o {o : Nat} {y : Int32} (h : opR o y) : 38 ≤ o ∧ o ≤ 124 := by
  rcases h with ⟨rfl, _⟩ | ⟨rfl, _⟩ | ⟨rfl, _⟩ | ⟨rfl, _⟩ | ⟨rfl, _⟩ | ⟨rfl, _⟩ | ⟨rfl, _⟩ | ⟨rfl, _⟩ | ⟨rfl, _⟩ <;> decide
theorem lf_num {v : Nat} {a b c : Int32} (hv : v ≤ 9999) : lfI (nI v) a b c = nI v := by
  have q : ∀ j : Nat, j < 3 → ¬ nI v - nI 10000 = nI j := by
    intro j hj y
    have : nI v = nI (10000 + j) := by rw [Nat.add_comm, ← nI_add, ← y, Int32.sub_add_cancel]
    rw [L_eq (by omega) (by omega)] at this
    omega
  unfold lfI
  rw [if_neg (q 0 (by omega)), if_neg (q 1 (by omega)), if_neg (q 2 (by omega))]
theorem lf_nam {j : Nat} {a b c : Int32} (hj : j < 3) : lfI (nI (10000 + j)) a b c = if j = 0 then a else if j = 1 then b else c := by
  have e : nI (10000 + j) - nI 10000 = nI j := by rw [nI_sub (by omega), Nat.add_sub_cancel_left]
  have : j = 0 ∨ j = 1 ∨ j = 2 := by omega
  unfold lfI
  rw [e]
  rcases this with rfl | rfl | rfl
  · rfl
  · rfl
  · rfl
section C20
variable {X : List Int32} {d g i t n : Nat} {h : gm_H} {u : gt_M} {x y v a b c : Int32} {s : Nat → Int32}
theorem m_workedL (ht : t < 14) (hn : n ≤ 96) : ∀ (k i top : Nat) (S : Nat → Int32) (u : gt_M) (v5 : Value), i + k = n → top ≤ i → (∀ j, j < top → u 46 j = S j) → u 40 (69 + 100 * t + 2) = nI n → (∀ j, j < n → cR 3 (s j) (u 40 (69 + 100 * t + 3 + j))) → wfS s k i top → u 45 0 = a → u 45 1 = b → u 45 2 = c → ∃ u', gm_ev X (d + 1) 190 13 [.ref 116, .int (nI t), .int (nI (69 + 100 * t)), .int (nI top), .int (nI i), v5] [] (gt_h u) = some (some (.int (gvS s a b c k i S top)), gt_h u') ∧ ∀ b', b' ≠ 46 → u' b' = u b' := by
  intro k
  induction k with
  | zero =>
    intro i top S u v5 hk htop hS hz hs hw ha hb hc
    have hw : top = 1 := hw
    refine ⟨u, ?_, fun _ _ => rfl⟩
    rw [bk_190_13, gvS]
    simp -implicitDefEqProofs (disch := first | (with_reducible first | exact rt_190 | exact na_189 | exact c1_i | exact c1_r | exact of_eq_false nf_zGC | exact of_eq_false nf_zBA | exact of_eq_false nf_zDA | exact of_eq_false nf_zCA | exact of_eq_false nf_zBC | exact of_eq_false nf_zDC | exact of_eq_false nf_zSC | exact of_eq_false nf_zSP | exact of_eq_false nf_zLC | exact of_eq_false nf_zLB | exact of_eq_false nf_zLS | exact of_eq_false nf_zLP | exact of_eq_false nf_zTR) | omega | exact Nat.le_of_ble_eq_true rfl | ((with_reducible refine nI_ne0 ?_ ?_) <;> omega)) only [bk_190_0, tn_0, bl_c69, bl_c100, bl_il1, bl_imul, bl_iadd, bl_is2, bl_c0, bl_is3, bl_is4, tn_13, bl_il4, bl_al0, bf_116_0, bl_il2, bl_c2, ba_zCA, ba_zTR, ba_zSP, ba_zLP, ba_18, ba_19, ba_20, ba_21, ba_83, ba_87, ba_117, ba_118, ba_119, ba_120, ba_123, ba_124, ba_125, ba_126, ba_127, ba_128, ba_129, ba_130, ba_131, ba_132, bl_ic_ge, bl_c3, bl_is5, bl_il5, bl_if_lt, bf_116_19, bl_il3, bw_zCA, bw_zTR, bw_zSP, bw_zLP, bw_18, bw_19, bw_20, bw_21, bw_83, bw_87, bw_117, bw_118, bw_119, bw_120, bw_123, bw_124, bw_125, bw_126, bw_127, bw_128, bw_129, bw_130, bw_131, bw_132, bl_in3_1, bl_goto, bk_190_58, tn_58, bl_cm10, bl_ic_lt, bf_116_18, bl_isub, bk_190_87, tn_87, bl_cm29, bl_ic_ne, bl_c1, bl_if_ne, bk_190_116, tn_116, bk_190_117, tn_117, bk_190_121, tn_121, bl_in3_m1, bl_is_3, bk_190_151, tn_151, bl_in4_1, bk_190_157, tn_157, bl_ri, bl_rz, bl_rz1, bl_rz0, Option.bind_some, Option.bind_none, Option.toList_some, Option.toList_none, List.cons_append, List.nil_append, not_false_eq_true, not_true_eq_false, nI_10, nI_00, bI_0, bI_n0, if_true, if_false, true_and, and_true, and_false, false_and, Classical.not_not, ↓reduceIte, eq_self, Nat.reduceAdd, Nat.reduceMul, bl_nil, z_lt, z_le, z_gt, z_ge, nI_add, nI_mul, nI_sub, L_lt, L_le, L_eq, L_e0, N_ltT, N_ltF, N_leT, N_leF, N_eqT, N_eqF, gs_hit, gs_miss, hz, hS]
  | succ k ih =>
    intro i top S u v5 hk htop hS hz hs hw ha hb hc
    have hx := hs i (by omega)
    rw [wfS] at hw
    have step : ∀ (top' o : Nat) (x : Int32) (v5' : Value), top' ≤ i + 1 → wfS s k (i + 1) top' → (∀ j, j < top' → ¬ j = o → j < top) → ∃ u', gm_ev X (d + 1) 190 13 [.ref 116, .int (nI t), .int (nI (69 + 100 * t)), .int (nI top'), .int (nI (i + 1)), v5'] [] (gt_h (gt_set u 46 o x)) = some (some (.int (gvS s a b c k (i + 1) (wS S o x) top')), gt_h u') ∧ ∀ b', b' ≠ 46 → u' b' = u b' := by
      intro top' o x v5' h1 h2 h3
      obtain ⟨u', e, f⟩ := ih (i + 1) top' (wS S o x) (gt_set u 46 o x) v5' (by omega) h1 (fun j hj => by
        rw [gs_row]
        by_cases hj' : j = o
        · rw [wS_hit hj', wS_hit hj']
        · rw [wS_miss hj', wS_miss hj', hS j (h3 j hj hj')]) (by rw [gs_rowne (by omega)]; exact hz) (fun j hj => by rw [gs_rowne (by omega)]; exact hs j hj) h2 (by rw [gs_rowne (by omega)]; exact ha) (by rw [gs_rowne (by omega)]; exact hb) (by rw [gs_rowne (by omega)]; exact hc)
      exact ⟨u', e, fun b' hb' => by rw [f b' hb', gs_rowne hb']⟩
    rcases hx with ⟨v, hv, h1, h2⟩ | ⟨j, hj, h1, h2⟩ | ⟨h1, h2⟩ | ⟨o, h1, h2⟩
    · have c1 : s i < nI 20000 := by rw [h1, L_lt (by omega) (by omega)]; omega
      rw [if_pos c1] at hw
      obtain ⟨u', e, f⟩ := step (top + 1) top (lfI (s i) a b c) (.int (nI v)) (by omega) hw (fun j _ _ => by omega)
      refine ⟨u', ?_, f⟩
      rw [gvS, if_pos c1, ← e, bk_190_13, h1, lf_num hv]
      simp -implicitDefEqProofs (disch := first | (with_reducible first | exact rt_190 | exact na_189 | exact c1_i | exact c1_r | exact of_eq_false nf_zGC | exact of_eq_false nf_zBA | exact of_eq_false nf_zDA | exact of_eq_false nf_zCA | exact of_eq_false nf_zBC | exact of_eq_false nf_zDC | exact of_eq_false nf_zSC | exact of_eq_false nf_zSP | exact of_eq_false nf_zLC | exact of_eq_false nf_zLB | exact of_eq_false nf_zLS | exact of_eq_false nf_zLP | exact of_eq_false nf_zTR) | omega | exact Nat.le_of_ble_eq_true rfl | ((with_reducible refine nI_ne0 ?_ ?_) <;> omega)) only [bk_190_0, tn_0, bl_c69, bl_c100, bl_il1, bl_imul, bl_iadd, bl_is2, bl_c0, bl_is3, bl_is4, tn_13, bl_il4, bl_al0, bf_116_0, bl_il2, bl_c2, ba_zCA, ba_zTR, ba_zSP, ba_zLP, ba_18, ba_19, ba_20, ba_21, ba_83, ba_87, ba_117, ba_118, ba_119, ba_120, ba_123, ba_124, ba_125, ba_126, ba_127, ba_128, ba_129, ba_130, ba_131, ba_132, bl_ic_ge, bl_c3, bl_is5, bl_il5, bl_if_lt, bf_116_19, bl_il3, bw_zCA, bw_zTR, bw_zSP, bw_zLP, bw_18, bw_19, bw_20, bw_21, bw_83, bw_87, bw_117, bw_118, bw_119, bw_120, bw_123, bw_124, bw_125, bw_126, bw_127, bw_128, bw_129, bw_130, bw_131, bw_132, bl_in3_1, bl_goto, bk_190_58, tn_58, bl_cm10, bl_ic_lt, bf_116_18, bl_isub, bk_190_87, tn_87, bl_cm29, bl_ic_ne, bl_c1, bl_if_ne, bk_190_116, tn_116, bk_190_117, tn_117, bk_190_121, tn_121, bl_in3_m1, bl_is_3, bk_190_151, tn_151, bl_in4_1, bk_190_157, tn_157, bl_ri, bl_rz, bl_rz1, bl_rz0, Option.bind_some, Option.bind_none, Option.toList_some, Option.toList_none, List.cons_append, List.nil_append, not_false_eq_true, not_true_eq_false, nI_10, nI_00, bI_0, bI_n0, if_true, if_false, true_and, and_true, and_false, false_and, Classical.not_not, ↓reduceIte, eq_self, Nat.reduceAdd, Nat.reduceMul, bl_nil, z_lt, z_le, z_gt, z_ge, nI_add, nI_mul, nI_sub, L_lt, L_le, L_eq, L_e0, N_ltT, N_ltF, N_leT, N_leF, N_eqT, N_eqF, gs_hit, gs_miss, hz, h2]
    · have c1 : s i < nI 20000 := by rw [h1, L_lt (by omega) (by omega)]; omega
      rw [if_pos c1] at hw
      obtain ⟨u', e, f⟩ := step (top + 1) top (lfI (s i) a b c) (.int (-10 + nI j)) (by omega) hw (fun j _ _ => by omega)
      refine ⟨u', ?_, f⟩
      have hv : (if j = 0 then a else if j = 1 then b else c) = u 45 j := by
        have : j = 0 ∨ j = 1 ∨ j = 2 := by omega
        rcases this with rfl | rfl | rfl
        · rw [ha]; rfl
        · rw [hb]; rfl
        · rw [hc]; rfl
      rw [gvS, if_pos c1, ← e, bk_190_13, h1, lf_nam hj, hv]
      simp -implicitDefEqProofs (disch := first | (with_reducible first | exact rt_190 | exact na_189 | exact c1_i | exact c1_r | exact of_eq_false nf_zGC | exact of_eq_false nf_zBA | exact of_eq_false nf_zDA | exact of_eq_false nf_zCA | exact of_eq_false nf_zBC | exact of_eq_false nf_zDC | exact of_eq_false nf_zSC | exact of_eq_false nf_zSP | exact of_eq_false nf_zLC | exact of_eq_false nf_zLB | exact of_eq_false nf_zLS | exact of_eq_false nf_zLP | exact of_eq_false nf_zTR) | omega | exact Nat.le_of_ble_eq_true rfl | ((with_reducible refine nI_ne0 ?_ ?_) <;> omega)) only [bk_190_0, tn_0, bl_c69, bl_c100, bl_il1, bl_imul, bl_iadd, bl_is2, bl_c0, bl_is3, bl_is4, tn_13, bl_il4, bl_al0, bf_116_0, bl_il2, bl_c2, ba_zCA, ba_zTR, ba_zSP, ba_zLP, ba_18, ba_19, ba_20, ba_21, ba_83, ba_87, ba_117, ba_118, ba_119, ba_120, ba_123, ba_124, ba_125, ba_126, ba_127, ba_128, ba_129, ba_130, ba_131, ba_132, bl_ic_ge, bl_c3, bl_is5, bl_il5, bl_if_lt, bf_116_19, bl_il3, bw_zCA, bw_zTR, bw_zSP, bw_zLP, bw_18, bw_19, bw_20, bw_21, bw_83, bw_87, bw_117, bw_118, bw_119, bw_120, bw_123, bw_124, bw_125, bw_126, bw_127, bw_128, bw_129, bw_130, bw_131, bw_132, bl_in3_1, bl_goto, bk_190_58, tn_58, bl_cm10, bl_ic_lt, bf_116_18, bl_isub, bk_190_87, tn_87, bl_cm29, bl_ic_ne, bl_c1, bl_if_ne, bk_190_116, tn_116, bk_190_117, tn_117, bk_190_121, tn_121, bl_in3_m1, bl_is_3, bk_190_151, tn_151, bl_in4_1, bk_190_157, tn_157, bl_ri, bl_rz, bl_rz1, bl_rz0, Option.bind_some, Option.bind_none, Option.toList_some, Option.toList_none, List.cons_append, List.nil_append, not_false_eq_true, not_true_eq_false, nI_10, nI_00, bI_0, bI_n0, if_true, if_false, true_and, and_true, and_false, false_and, Classical.not_not, ↓reduceIte, eq_self, Nat.reduceAdd, Nat.reduceMul, bl_nil, z_lt, z_le, z_gt, z_ge, nI_add, nI_mul, nI_sub, L_lt, L_le, L_eq, L_e0, N_ltT, N_ltF, N_leT, N_leF, N_eqT, N_eqF, gs_hit, gs_miss, hz, h2, nm_lt hj, nm_ge hj, nm_ix hj]
    · have c1 : ¬ s i < nI 20000 := by rw [h1, L_lt (by omega) (by omega)]; omega
      rw [if_neg c1, if_pos h1] at hw
      obtain ⟨u', e, f⟩ := step top (top - 1) (if S (top - 1) = 0 then nI 1 else nI 0) (.int (-29)) (by omega) hw.2 (fun j _ _ => by omega)
      refine ⟨u', ?_, f⟩
      have h0 : ¬ top = 0 := by omega
      have hS1 := hS (top - 1) (by omega)
      rw [gvS, if_neg c1, if_pos h1, if_neg h0, ← e, bk_190_13]
      by_cases hzz : S (top - 1) = 0
      · simp -implicitDefEqProofs (disch := first | (with_reducible first | exact rt_190 | exact na_189 | exact c1_i | exact c1_r | exact of_eq_false nf_zGC | exact of_eq_false nf_zBA | exact of_eq_false nf_zDA | exact of_eq_false nf_zCA | exact of_eq_false nf_zBC | exact of_eq_false nf_zDC | exact of_eq_false nf_zSC | exact of_eq_false nf_zSP | exact of_eq_false nf_zLC | exact of_eq_false nf_zLB | exact of_eq_false nf_zLS | exact of_eq_false nf_zLP | exact of_eq_false nf_zTR) | omega | exact Nat.le_of_ble_eq_true rfl | ((with_reducible refine nI_ne0 ?_ ?_) <;> omega)) only [bk_190_0, tn_0, bl_c69, bl_c100, bl_il1, bl_imul, bl_iadd, bl_is2, bl_c0, bl_is3, bl_is4, tn_13, bl_il4, bl_al0, bf_116_0, bl_il2, bl_c2, ba_zCA, ba_zTR, ba_zSP, ba_zLP, ba_18, ba_19, ba_20, ba_21, ba_83, ba_87, ba_117, ba_118, ba_119, ba_120, ba_123, ba_124, ba_125, ba_126, ba_127, ba_128, ba_129, ba_130, ba_131, ba_132, bl_ic_ge, bl_c3, bl_is5, bl_il5, bl_if_lt, bf_116_19, bl_il3, bw_zCA, bw_zTR, bw_zSP, bw_zLP, bw_18, bw_19, bw_20, bw_21, bw_83, bw_87, bw_117, bw_118, bw_119, bw_120, bw_123, bw_124, bw_125, bw_126, bw_127, bw_128, bw_129, bw_130, bw_131, bw_132, bl_in3_1, bl_goto, bk_190_58, tn_58, bl_cm10, bl_ic_lt, bf_116_18, bl_isub, bk_190_87, tn_87, bl_cm29, bl_ic_ne, bl_c1, bl_if_ne, bk_190_116, tn_116, bk_190_117, tn_117, bk_190_121, tn_121, bl_in3_m1, bl_is_3, bk_190_151, tn_151, bl_in4_1, bk_190_157, tn_157, bl_ri, bl_rz, bl_rz1, bl_rz0, Option.bind_some, Option.bind_none, Option.toList_some, Option.toList_none, List.cons_append, List.nil_append, not_false_eq_true, not_true_eq_false, nI_10, nI_00, bI_0, bI_n0, if_true, if_false, true_and, and_true, and_false, false_and, Classical.not_not, ↓reduceIte, eq_self, Nat.reduceAdd, Nat.reduceMul, bl_nil, z_lt, z_le, z_gt, z_ge, nI_add, nI_mul, nI_sub, L_lt, L_le, L_eq, L_e0, N_ltT, N_ltF, N_leT, N_leF, N_eqT, N_eqF, gs_hit, gs_miss, hz, h2, m29_lt, m29_l10, hS1, hzz]
      · simp -implicitDefEqProofs (disch := first | (with_reducible first | exact rt_190 | exact na_189 | exact c1_i | exact c1_r | exact of_eq_false nf_zGC | exact of_eq_false nf_zBA | exact of_eq_false nf_zDA | exact of_eq_false nf_zCA | exact of_eq_false nf_zBC | exact of_eq_false nf_zDC | exact of_eq_false nf_zSC | exact of_eq_false nf_zSP | exact of_eq_false nf_zLC | exact of_eq_false nf_zLB | exact of_eq_false nf_zLS | exact of_eq_false nf_zLP | exact of_eq_false nf_zTR) | omega | exact Nat.le_of_ble_eq_true rfl | ((with_reducible refine nI_ne0 ?_ ?_) <;> omega)) only [bk_190_0, tn_0, bl_c69, bl_c100, bl_il1, bl_imul, bl_iadd, bl_is2, bl_c0, bl_is3, bl_is4, tn_13, bl_il4, bl_al0, bf_116_0, bl_il2, bl_c2, ba_zCA, ba_zTR, ba_zSP, ba_zLP, ba_18, ba_19, ba_20, ba_21, ba_83, ba_87, ba_117, ba_118, ba_119, ba_120, ba_123, ba_124, ba_125, ba_126, ba_127, ba_128, ba_129, ba_130, ba_131, ba_132, bl_ic_ge, bl_c3, bl_is5, bl_il5, bl_if_lt, bf_116_19, bl_il3, bw_zCA, bw_zTR, bw_zSP, bw_zLP, bw_18, bw_19, bw_20, bw_21, bw_83, bw_87, bw_117, bw_118, bw_119, bw_120, bw_123, bw_124, bw_125, bw_126, bw_127, bw_128, bw_129, bw_130, bw_131, bw_132, bl_in3_1, bl_goto, bk_190_58, tn_58, bl_cm10, bl_ic_lt, bf_116_18, bl_isub, bk_190_87, tn_87, bl_cm29, bl_ic_ne, bl_c1, bl_if_ne, bk_190_116, tn_116, bk_190_117, tn_117, bk_190_121, tn_121, bl_in3_m1, bl_is_3, bk_190_151, tn_151, bl_in4_1, bk_190_157, tn_157, bl_ri, bl_rz, bl_rz1, bl_rz0, Option.bind_some, Option.bind_none, Option.toList_some, Option.toList_none, List.cons_append, List.nil_append, not_false_eq_true, not_true_eq_false, nI_10, nI_00, bI_0, bI_n0, if_true, if_false, true_and, and_true, and_false, false_and, Classical.not_not, ↓reduceIte, eq_self, Nat.reduceAdd, Nat.reduceMul, bl_nil, z_lt, z_le, z_gt, z_ge, nI_add, nI_mul, nI_sub, L_lt, L_le, L_eq, L_e0, N_ltT, N_ltF, N_leT, N_leF, N_eqT, N_eqF, gs_hit, gs_miss, hz, h2, m29_lt, m29_l10, hS1, hzz]
    · have ho := op_o h2
      have c1 : ¬ s i < nI 20000 := by rw [h1, L_lt (by omega) (by omega)]; omega
      have c2 : ¬ s i = nI 20033 := by rw [h1, L_eq (by omega) (by omega)]; omega
      rw [if_neg c1, if_neg c2] at hw
      have h0 : ¬ top ≤ 1 := by omega
      have hj : s i - nI 20000 = nI o := by rw [h1, nI_sub (by omega), Nat.add_sub_cancel_left]
      have hS1 := hS (top - 1) (by omega)
      have hS2 := hS (top - 1 - 1) (by omega)
      obtain ⟨u', e, f⟩ := step (top - 1) (top - 1 - 1) (jnI (s i - nI 20000) (S (top - 1 - 1)) (S (top - 1))) (.int (u 40 (69 + 100 * t + 3 + i))) (by omega) hw.2 (fun j _ _ => by omega)
      refine ⟨u', ?_, f⟩
      rw [gvS, if_neg c1, if_neg c2, if_neg h0, ← e, bk_190_13, hj]
      simp -implicitDefEqProofs (disch := first | (with_reducible first | exact rt_190 | exact na_189 | exact c1_i | exact c1_r | exact of_eq_false nf_zGC | exact of_eq_false nf_zBA | exact of_eq_false nf_zDA | exact of_eq_false nf_zCA | exact of_eq_false nf_zBC | exact of_eq_false nf_zDC | exact of_eq_false nf_zSC | exact of_eq_false nf_zSP | exact of_eq_false nf_zLC | exact of_eq_false nf_zLB | exact of_eq_false nf_zLS | exact of_eq_false nf_zLP | exact of_eq_false nf_zTR) | omega | exact Nat.le_of_ble_eq_true rfl | ((with_reducible refine nI_ne0 ?_ ?_) <;> omega)) only [bk_190_0, tn_0, bl_c69, bl_c100, bl_il1, bl_imul, bl_iadd, bl_is2, bl_c0, bl_is3, bl_is4, tn_13, bl_il4, bl_al0, bf_116_0, bl_il2, bl_c2, ba_zCA, ba_zTR, ba_zSP, ba_zLP, ba_18, ba_19, ba_20, ba_21, ba_83, ba_87, ba_117, ba_118, ba_119, ba_120, ba_123, ba_124, ba_125, ba_126, ba_127, ba_128, ba_129, ba_130, ba_131, ba_132, bl_ic_ge, bl_c3, bl_is5, bl_il5, bl_if_lt, bf_116_19, bl_il3, bw_zCA, bw_zTR, bw_zSP, bw_zLP, bw_18, bw_19, bw_20, bw_21, bw_83, bw_87, bw_117, bw_118, bw_119, bw_120, bw_123, bw_124, bw_125, bw_126, bw_127, bw_128, bw_129, bw_130, bw_131, bw_132, bl_in3_1, bl_goto, bk_190_58, tn_58, bl_cm10, bl_ic_lt, bf_116_18, bl_isub, bk_190_87, tn_87, bl_cm29, bl_ic_ne, bl_c1, bl_if_ne, bk_190_116, tn_116, bk_190_117, tn_117, bk_190_121, tn_121, bl_in3_m1, bl_is_3, bk_190_151, tn_151, bl_in4_1, bk_190_157, tn_157, bl_ri, bl_rz, bl_rz1, bl_rz0, Option.bind_some, Option.bind_none, Option.toList_some, Option.toList_none, List.cons_append, List.nil_append, not_false_eq_true, not_true_eq_false, nI_10, nI_00, bI_0, bI_n0, if_true, if_false, true_and, and_true, and_false, false_and, Classical.not_not, ↓reduceIte, eq_self, Nat.reduceAdd, Nat.reduceMul, bl_nil, z_lt, z_le, z_gt, z_ge, nI_add, nI_mul, nI_sub, L_lt, L_le, L_eq, L_e0, N_ltT, N_ltF, N_leT, N_leF, N_eqT, N_eqF, gs_hit, gs_miss, hz, op_lt h2, op_l10 h2, op_n29 h2, hS1, hS2, nI_m1, m_done h2]
theorem m_worked (ht : t < 14) (hn : n ≤ 96) (hz : u 40 (69 + 100 * t + 2) = nI n) (hs : ∀ j, j < n → cR 3 (s j) (u 40 (69 + 100 * t + 3 + j))) (hw : wfS s n 0 0) : ∃ u', gm_cl' X (d + 1) 190 [.ref 116, .int (nI t)] (gt_h u) = some (some (.int (gv s n (u 45 0) (u 45 1) (u 45 2))), gt_h u') ∧ ∀ b', b' ≠ 46 → u' b' = u b' := by
  obtain ⟨u', e, f⟩ := m_workedL (X := X) (d := d) ht hn n 0 0 (fun _ => nI 0) u (.retAddr 0) (by omega) (by omega) (fun j hj => by omega) hz hs hw rfl rfl rfl
  refine ⟨u', ?_, f⟩
  rw [cl_190, gv, ← e]
  simp -implicitDefEqProofs (disch := first | (with_reducible first | exact rt_190 | exact na_189 | exact c1_i | exact c1_r | exact of_eq_false nf_zGC | exact of_eq_false nf_zBA | exact of_eq_false nf_zDA | exact of_eq_false nf_zCA | exact of_eq_false nf_zBC | exact of_eq_false nf_zDC | exact of_eq_false nf_zSC | exact of_eq_false nf_zSP | exact of_eq_false nf_zLC | exact of_eq_false nf_zLB | exact of_eq_false nf_zLS | exact of_eq_false nf_zLP | exact of_eq_false nf_zTR) | omega | exact Nat.le_of_ble_eq_true rfl | ((with_reducible refine nI_ne0 ?_ ?_) <;> omega)) only [bk_190_0, tn_0, bl_c69, bl_c100, bl_il1, bl_imul, bl_iadd, bl_is2, bl_c0, bl_is3, bl_is4, tn_13, bl_il4, bl_al0, bf_116_0, bl_il2, bl_c2, ba_zCA, ba_zTR, ba_zSP, ba_zLP, ba_18, ba_19, ba_20, ba_21, ba_83, ba_87, ba_117, ba_118, ba_119, ba_120, ba_123, ba_124, ba_125, ba_126, ba_127, ba_128, ba_129, ba_130, ba_131, ba_132, bl_ic_ge, bl_c3, bl_is5, bl_il5, bl_if_lt, bf_116_19, bl_il3, bw_zCA, bw_zTR, bw_zSP, bw_zLP, bw_18, bw_19, bw_20, bw_21, bw_83, bw_87, bw_117, bw_118, bw_119, bw_120, bw_123, bw_124, bw_125, bw_126, bw_127, bw_128, bw_129, bw_130, bw_131, bw_132, bl_in3_1, bl_goto, bk_190_58, tn_58, bl_cm10, bl_ic_lt, bf_116_18, bl_isub, bk_190_87, tn_87, bl_cm29, bl_ic_ne, bl_c1, bl_if_ne, bk_190_116, tn_116, bk_190_117, tn_117, bk_190_121, tn_121, bl_in3_m1, bl_is_3, bk_190_151, tn_151, bl_in4_1, bk_190_157, tn_157, bl_ri, bl_rz, bl_rz1, bl_rz0, Option.bind_some, Option.bind_none, Option.toList_some, Option.toList_none, List.cons_append, List.nil_append, not_false_eq_true, not_true_eq_false, nI_10, nI_00, bI_0, bI_n0, if_true, if_false, true_and, and_true, and_false, false_and, Classical.not_not, ↓reduceIte, eq_self, Nat.reduceAdd, Nat.reduceMul, bl_nil, z_lt, z_le, z_gt, z_ge, nI_add, nI_mul, nI_sub, L_lt, L_le, L_eq, L_e0, N_ltT, N_ltF, N_leT, N_leF, N_eqT, N_eqF, gs_hit, gs_miss]
/-- the third name stands in no text of two names -/
theorem gvS_c {c c' : Int32} : ∀ (k i : Nat) (S : Nat → Int32) (top : Nat), (∀ j, j < i + k → ∃ y, cR 2 (s j) y) → gvS s a b c k i S top = gvS s a b c' k i S top := by
  intro k
  induction k with
  | zero => intro i S top _; rfl
  | succ k ih =>
    intro i S top hs
    have q : s i < nI 20000 → lfI (s i) a b c = lfI (s i) a b c' := by
      intro c1
      obtain ⟨y, hx⟩ := hs i (by omega)
      rcases hx with ⟨v, hv, h1, h2⟩ | ⟨j, hj, h1, h2⟩ | ⟨h1, h2⟩ | ⟨o, h1, h2⟩
      · rw [h1, lf_num hv, lf_num hv]
      · rw [h1, lf_nam (by omega), lf_nam (by omega)]
        have : j = 0 ∨ j = 1 := by omega
        rcases this with rfl | rfl <;> rfl
      · rw [h1, L_lt (by omega) (by omega)] at c1; omega
      · have ho := op_o h2
        rw [h1, L_lt (by omega) (by omega)] at c1; omega
    have ih := fun S top => ih (i + 1) S top (fun j hj => hs j (by omega))
    rw [gvS, gvS]
    by_cases c1 : s i < nI 20000
    · rw [if_pos c1, if_pos c1, q c1, ih]
    · rw [if_neg c1, if_neg c1, ih, ih, ih]
theorem gv_c {c c' : Int32} (hs : ∀ j, j < n → ∃ y, cR 2 (s j) y) : gv s n a b c = gv s n a b c' := gvS_c n 0 _ 0 (fun j hj => hs j (by omega))
end C20
