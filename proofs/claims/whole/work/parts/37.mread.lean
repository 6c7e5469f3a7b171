-- the reference's readers
def mR (X : List Int32) (B : Nat → Nat) (c ky f lv J : Nat) : Prop := ∀ (p q : Nat) (s : pS) (u : gt_M) (D : Nat), p ≤ 8 → q ≤ 8 → 7 * ((8 - p) + (8 - q)) + (5 - lv) + 1 ≤ f → 7 * (8 - p) + (8 - q) + (5 - lv) + 20 ≤ D → okT B c s → rM B c ky u s → s.2.2.2.1.length ≤ s.2.1 → u 54 7 = nI p → u 54 8 = nI q → ∃ u', gm_cl' X D J [.ref 116] (gt_h u) = some (none, gt_h u') ∧ fR u u' ∧ ((pG B c ky f lv p q s).1 = true → rM B c ky u' (pG B c ky f lv p q s).2) ∧ (¬ (pG B c ky f lv p q s).1 = true → wM B c ky u' (pG B c ky f lv p q s).2)
def wR (X : List Int32) (B : Nat → Nat) (c ky J k : Nat) : Prop := ∀ (s : pS) (u : gt_M) (D : Nat), k ≤ D → okT B c s → wM B c ky u s → ∃ x, gm_cl' X D J [.ref 116] (gt_h u) = some (none, gt_h (gt_set u 54 9 x))
theorem rM_o {B : Nat → Nat} {c ky o : Nat} {u : gt_M} {s : pS} {x : Int32} (ho : o = 7 ∨ o = 8) (h : rM B c ky u s) : rM B c ky (gt_set u 54 o x) s := by
  obtain ⟨⟨h1, h2, h3, h4, h6, hB⟩, h5, h9, h10, hr⟩ := h
  refine ⟨⟨?_, ?_, ?_, ?_, ?_, fun k hk => ?_⟩, ?_, ?_, ?_, fun j hj => ?_⟩
  · rw [gs_miss (by omega)]; exact h1
  · rw [gs_miss (by omega)]; exact h2
  · rw [gs_miss (by omega)]; exact h3
  · rw [gs_miss (by omega)]; exact h4
  · rw [gs_miss (by omega)]; exact h6
  · rw [gs_rowne (by omega)]; exact hB k hk
  · rw [gs_miss (by omega)]; exact h5
  · rw [gs_miss (by omega)]; exact h9
  · rw [gs_miss (by omega)]; exact h10
  · rw [gs_rowne (by omega)]; exact hr j hj
theorem wM_o {B : Nat → Nat} {c ky o : Nat} {u : gt_M} {s : pS} {x : Int32} (ho : o = 7 ∨ o = 8 ∨ o = 9) (h : wM B c ky u s) : wM B c ky (gt_set u 54 o x) s := by
  obtain ⟨⟨h1, h2, h3, h4, h6, hB⟩, h5⟩ := h
  refine ⟨⟨?_, ?_, ?_, ?_, ?_, fun k hk => ?_⟩, ?_⟩
  · rw [gs_miss (by omega)]; exact h1
  · rw [gs_miss (by omega)]; exact h2
  · rw [gs_miss (by omega)]; exact h3
  · rw [gs_miss (by omega)]; exact h4
  · rw [gs_miss (by omega)]; exact h6
  · rw [gs_rowne (by omega)]; exact hB k hk
  · rw [gs_miss (by omega)]; exact h5
def fX (k : Nat) (u u' : gt_M) : Prop := (∀ b, b ≠ 44 → b ≠ 54 → u' b = u b) ∧ ∀ o, o ≠ 2 → o ≠ 3 → o ≠ 4 → o ≠ 5 → o ≠ 9 → o ≠ 10 → o ≠ k → u' 54 o = u 54 o
theorem fX_R {k : Nat} {u u' : gt_M} (h : fR u u') : fX k u u' := ⟨h.1, fun o h1 h2 h3 h4 h5 h6 _ => h.2 o h1 h2 h3 h4 h5 h6⟩
theorem fX_trans {k : Nat} {u u' u'' : gt_M} (h : fX k u u') (g : fX k u' u'') : fX k u u'' := ⟨fun b h1 h2 => by rw [g.1 b h1 h2, h.1 b h1 h2], fun o h1 h2 h3 h4 h5 h6 h7 => by rw [g.2 o h1 h2 h3 h4 h5 h6 h7, h.2 o h1 h2 h3 h4 h5 h6 h7]⟩
theorem fX_set {k : Nat} {u : gt_M} {x : Int32} : fX k u (gt_set u 54 k x) := ⟨fun b h1 h2 => gs_rowne h2, fun o h1 h2 h3 h4 h5 h6 h7 => gs_miss (by omega)⟩
theorem fX_done {k : Nat} {u u' : gt_M} (h : fX k u u') (e : u' 54 k = u 54 k) : fR u u' := ⟨h.1, fun o h1 h2 h3 h4 h5 h6 => by
  by_cases ok : o = k
  · rw [ok]; exact e
  · exact h.2 o h1 h2 h3 h4 h5 h6 ok⟩
theorem lvO_inv {g : Nat} : (lvO g = 0 → g = 124) ∧ (lvO g = 1 → g = 38) ∧ (lvO g = 2 → g = 60 ∨ g = 61 ∨ g = 62) ∧ (lvO g = 3 → g = 43 ∨ g = 45) ∧ (lvO g = 4 → g = 42 ∨ g = 47) := by
  unfold lvO
  by_cases e1 : g = 124
  · rw [if_pos e1]; omega
  by_cases e2 : g = 38
  · rw [if_neg e1, if_pos e2]; omega
  by_cases e3 : g = 60
  · rw [if_neg e1, if_neg e2, if_pos e3]; omega
  by_cases e4 : g = 61
  · rw [if_neg e1, if_neg e2, if_neg e3, if_pos e4]; omega
  by_cases e5 : g = 62
  · rw [if_neg e1, if_neg e2, if_neg e3, if_neg e4, if_pos e5]; omega
  by_cases e6 : g = 43
  · rw [if_neg e1, if_neg e2, if_neg e3, if_neg e4, if_neg e5, if_pos e6]; omega
  by_cases e7 : g = 45
  · rw [if_neg e1, if_neg e2, if_neg e3, if_neg e4, if_neg e5, if_neg e6, if_pos e7]; omega
  by_cases e8 : g = 42
  · rw [if_neg e1, if_neg e2, if_neg e3, if_neg e4, if_neg e5, if_neg e6, if_neg e7, if_pos e8]; omega
  by_cases e9 : g = 47
  · rw [if_neg e1, if_neg e2, if_neg e3, if_neg e4, if_neg e5, if_neg e6, if_neg e7, if_neg e8, if_pos e9]; omega
  rw [if_neg e1, if_neg e2, if_neg e3, if_neg e4, if_neg e5, if_neg e6, if_neg e7, if_neg e8, if_neg e9]; omega
section C37
variable {X : List Int32} {d c ky f : Nat} {u : gt_M} {B : Nat → Nat} {h : gm_H} {s : pS}
theorem m_pcW (hk : ky < 3) (hc : c ≤ 96) (hb : ∀ k, B k < 256) : wR X B c ky 177 5 := by
  intro s u D hD ok h
  obtain ⟨D, rfl⟩ : ∃ D', D = D' + 5 := ⟨D - 5, by omega⟩
  obtain ⟨x, e⟩ := m_leafW (X := X) (d := D) hk hc hb ok h
  have e1 := fun x => m_isSgW (X := X) (d := D + 4) (x := x) h.2
  refine ⟨x, ?_⟩
  rw [cl_177]
  simp -implicitDefEqProofs (disch := first | (with_reducible first | exact rt_177 | exact na_174 | exact k_116.trans mc_174.symm | exact na_173 | exact k_116.trans mc_173.symm | exact na_177 | exact k_116.trans mc_177.symm | exact na_175 | exact k_116.trans mc_175.symm | exact na_183 | exact k_116.trans mc_183.symm | exact na_178 | exact k_116.trans mc_178.symm | exact c1_i | exact c1_r | exact of_eq_false nf_zGC | exact of_eq_false nf_zBA | exact of_eq_false nf_zDA | exact of_eq_false nf_zCA | exact of_eq_false nf_zBC | exact of_eq_false nf_zDC | exact of_eq_false nf_zSC | exact of_eq_false nf_zSP | exact of_eq_false nf_zLC | exact of_eq_false nf_zLB | exact of_eq_false nf_zLS | exact of_eq_false nf_zLP | exact of_eq_false nf_zTR) | omega | exact Nat.le_of_ble_eq_true rfl | ((with_reducible refine nI_ne0 ?_ ?_) <;> omega)) only [bk_177_0, tn_0, bl_al0, bl_c33, bl_iv2, bl_if_eq, bf_116_14, bl_c8, bl_ic_ge, bl_c1, bl_goto, bk_177_23, tn_23, bl_c0, bk_177_24, tn_24, bl_dupi, bl_dupr, bl_iadd, bpf_116_14, bl_iv1, bl_isub, bl_cm29, bk_177_60, tn_60, bl_c40, bf_116_13, bk_177_83, tn_83, bk_177_84, tn_84, bpf_116_13, bl_c41, bk_177_124, tn_124, bk_177_128, tn_128, bl_rv, Option.bind_some, Option.bind_none, Option.toList_some, Option.toList_none, List.cons_append, List.nil_append, not_false_eq_true, not_true_eq_false, nI_10, nI_00, bI_0, bI_n0, if_true, if_false, true_and, and_true, and_false, false_and, Classical.not_not, ↓reduceIte, eq_self, Nat.reduceAdd, Nat.reduceMul, bl_nil, z_lt, z_le, z_gt, z_ge, nI_add, nI_mul, nI_sub, L_lt, L_le, L_eq, L_e0, N_ltT, N_ltF, N_leT, N_leF, N_eqT, N_eqF, gs_hit, gs_miss, e1, e]
theorem m_tmW (hk : ky < 3) (hc : c ≤ 96) (hb : ∀ k, B k < 256) : wR X B c ky 179 6 := by
  intro s u D hD ok h
  obtain ⟨D, rfl⟩ : ∃ D', D = D' + 6 := ⟨D - 6, by omega⟩
  obtain ⟨x, e⟩ := m_pcW (X := X) (B := B) (c := c) (ky := ky) hk hc hb s u (D + 5) (by omega) ok h
  have h' := wM_o (o := 9) (x := x) (by omega) h
  have e1 := fun y => m_isSgW (X := X) (d := D + 5) (x := y) h'.2
  refine ⟨x, ?_⟩
  rw [cl_179]
  simp -implicitDefEqProofs (disch := first | (with_reducible first | exact rt_179 | exact na_177 | exact k_116.trans mc_177.symm | exact na_174 | exact k_116.trans mc_174.symm | exact na_173 | exact k_116.trans mc_173.symm | exact na_175 | exact k_116.trans mc_175.symm | exact c1_i | exact c1_r | exact of_eq_false nf_zGC | exact of_eq_false nf_zBA | exact of_eq_false nf_zDA | exact of_eq_false nf_zCA | exact of_eq_false nf_zBC | exact of_eq_false nf_zDC | exact of_eq_false nf_zSC | exact of_eq_false nf_zSP | exact of_eq_false nf_zLC | exact of_eq_false nf_zLB | exact of_eq_false nf_zLS | exact of_eq_false nf_zLP | exact of_eq_false nf_zTR) | omega | exact Nat.le_of_ble_eq_true rfl | ((with_reducible refine nI_ne0 ?_ ?_) <;> omega)) only [bk_179_0, tn_0, bl_al0, bl_iv1, bk_179_4, tn_4, bl_c42, bl_iv2, bl_if_ne, bl_c47, bl_if_eq, bk_179_22, tn_22, bf_116_4, bf_116_8, ba_zCA, ba_zTR, ba_zSP, ba_zLP, ba_18, ba_19, ba_20, ba_21, ba_83, ba_87, ba_117, ba_118, ba_119, ba_120, ba_123, ba_124, ba_125, ba_126, ba_127, ba_128, ba_129, ba_130, ba_131, ba_132, bl_ic_ne, bl_cm27, bl_goto, bk_179_41, tn_41, bl_cm28, bk_179_43, tn_43, bl_is1, bl_c1, bl_il1, bk_179_61, tn_61, bl_rv, Option.bind_some, Option.bind_none, Option.toList_some, Option.toList_none, List.cons_append, List.nil_append, not_false_eq_true, not_true_eq_false, nI_10, nI_00, bI_0, bI_n0, if_true, if_false, true_and, and_true, and_false, false_and, Classical.not_not, ↓reduceIte, eq_self, Nat.reduceAdd, Nat.reduceMul, bl_nil, z_lt, z_le, z_gt, z_ge, nI_add, nI_mul, nI_sub, L_lt, L_le, L_eq, L_e0, N_ltT, N_ltF, N_leT, N_leF, N_eqT, N_eqF, gs_hit, gs_miss, e, e1]
theorem m_smW (hk : ky < 3) (hc : c ≤ 96) (hb : ∀ k, B k < 256) : wR X B c ky 180 7 := by
  intro s u D hD ok h
  obtain ⟨D, rfl⟩ : ∃ D', D = D' + 7 := ⟨D - 7, by omega⟩
  obtain ⟨x, e⟩ := m_tmW (X := X) (B := B) (c := c) (ky := ky) hk hc hb s u (D + 6) (by omega) ok h
  have h' := wM_o (o := 9) (x := x) (by omega) h
  have e1 := fun y => m_isSgW (X := X) (d := D + 6) (x := y) h'.2
  refine ⟨x, ?_⟩
  rw [cl_180]
  simp -implicitDefEqProofs (disch := first | (with_reducible first | exact rt_180 | exact na_179 | exact k_116.trans mc_179.symm | exact na_174 | exact k_116.trans mc_174.symm | exact na_173 | exact k_116.trans mc_173.symm | exact na_175 | exact k_116.trans mc_175.symm | exact c1_i | exact c1_r | exact of_eq_false nf_zGC | exact of_eq_false nf_zBA | exact of_eq_false nf_zDA | exact of_eq_false nf_zCA | exact of_eq_false nf_zBC | exact of_eq_false nf_zDC | exact of_eq_false nf_zSC | exact of_eq_false nf_zSP | exact of_eq_false nf_zLC | exact of_eq_false nf_zLB | exact of_eq_false nf_zLS | exact of_eq_false nf_zLP | exact of_eq_false nf_zTR) | omega | exact Nat.le_of_ble_eq_true rfl | ((with_reducible refine nI_ne0 ?_ ?_) <;> omega)) only [bk_180_0, tn_0, bl_al0, bl_iv1, bk_180_4, tn_4, bl_c43, bl_iv2, bl_if_ne, bl_c45, bl_if_eq, bk_180_22, tn_22, bf_116_4, bf_116_8, ba_zCA, ba_zTR, ba_zSP, ba_zLP, ba_18, ba_19, ba_20, ba_21, ba_83, ba_87, ba_117, ba_118, ba_119, ba_120, ba_123, ba_124, ba_125, ba_126, ba_127, ba_128, ba_129, ba_130, ba_131, ba_132, bl_ic_ne, bl_cm25, bl_goto, bk_180_41, tn_41, bl_cm26, bk_180_43, tn_43, bl_is1, bl_c1, bl_il1, bk_180_61, tn_61, bl_rv, Option.bind_some, Option.bind_none, Option.toList_some, Option.toList_none, List.cons_append, List.nil_append, not_false_eq_true, not_true_eq_false, nI_10, nI_00, bI_0, bI_n0, if_true, if_false, true_and, and_true, and_false, false_and, Classical.not_not, ↓reduceIte, eq_self, Nat.reduceAdd, Nat.reduceMul, bl_nil, z_lt, z_le, z_gt, z_ge, nI_add, nI_mul, nI_sub, L_lt, L_le, L_eq, L_e0, N_ltT, N_ltF, N_leT, N_leF, N_eqT, N_eqF, gs_hit, gs_miss, e, e1]
theorem m_tsW (hk : ky < 3) (hc : c ≤ 96) (hb : ∀ k, B k < 256) : wR X B c ky 181 8 := by
  intro s u D hD ok h
  obtain ⟨D, rfl⟩ : ∃ D', D = D' + 8 := ⟨D - 8, by omega⟩
  obtain ⟨x, e⟩ := m_smW (X := X) (B := B) (c := c) (ky := ky) hk hc hb s u (D + 7) (by omega) ok h
  have h' := wM_o (o := 9) (x := x) (by omega) h
  have e1 := fun y => m_isSgW (X := X) (d := D + 7) (x := y) h'.2
  refine ⟨x, ?_⟩
  rw [cl_181]
  simp -implicitDefEqProofs (disch := first | (with_reducible first | exact rt_181 | exact na_180 | exact k_116.trans mc_180.symm | exact na_174 | exact k_116.trans mc_174.symm | exact na_173 | exact k_116.trans mc_173.symm | exact na_175 | exact k_116.trans mc_175.symm | exact c1_i | exact c1_r | exact of_eq_false nf_zGC | exact of_eq_false nf_zBA | exact of_eq_false nf_zDA | exact of_eq_false nf_zCA | exact of_eq_false nf_zBC | exact of_eq_false nf_zDC | exact of_eq_false nf_zSC | exact of_eq_false nf_zSP | exact of_eq_false nf_zLC | exact of_eq_false nf_zLB | exact of_eq_false nf_zLS | exact of_eq_false nf_zLP | exact of_eq_false nf_zTR) | omega | exact Nat.le_of_ble_eq_true rfl | ((with_reducible refine nI_ne0 ?_ ?_) <;> omega)) only [bk_181_0, tn_0, bl_al0, bl_iv1, bl_c60, bl_iv2, bl_if_ne, bl_c61, bl_c62, bl_if_eq, bk_181_31, tn_31, bf_116_4, bf_116_8, ba_zCA, ba_zTR, ba_zSP, ba_zLP, ba_18, ba_19, ba_20, ba_21, ba_83, ba_87, ba_117, ba_118, ba_119, ba_120, ba_123, ba_124, ba_125, ba_126, ba_127, ba_128, ba_129, ba_130, ba_131, ba_132, bl_ic_ne, bl_cm22, bl_goto, bk_181_50, tn_50, bl_cm23, bk_181_69, tn_69, bl_cm24, bk_181_71, tn_71, bl_is1, bl_c1, bl_il1, bk_181_86, tn_86, bl_rv, Option.bind_some, Option.bind_none, Option.toList_some, Option.toList_none, List.cons_append, List.nil_append, not_false_eq_true, not_true_eq_false, nI_10, nI_00, bI_0, bI_n0, if_true, if_false, true_and, and_true, and_false, false_and, Classical.not_not, ↓reduceIte, eq_self, Nat.reduceAdd, Nat.reduceMul, bl_nil, z_lt, z_le, z_gt, z_ge, nI_add, nI_mul, nI_sub, L_lt, L_le, L_eq, L_e0, N_ltT, N_ltF, N_leT, N_leF, N_eqT, N_eqF, gs_hit, gs_miss, e, e1]
theorem m_anW (hk : ky < 3) (hc : c ≤ 96) (hb : ∀ k, B k < 256) : wR X B c ky 182 9 := by
  intro s u D hD ok h
  obtain ⟨D, rfl⟩ : ∃ D', D = D' + 9 := ⟨D - 9, by omega⟩
  obtain ⟨x, e⟩ := m_tsW (X := X) (B := B) (c := c) (ky := ky) hk hc hb s u (D + 8) (by omega) ok h
  have h' := wM_o (o := 9) (x := x) (by omega) h
  have e1 := fun y => m_isSgW (X := X) (d := D + 8) (x := y) h'.2
  refine ⟨x, ?_⟩
  rw [cl_182]
  simp -implicitDefEqProofs (disch := first | (with_reducible first | exact rt_182 | exact na_181 | exact k_116.trans mc_181.symm | exact na_174 | exact k_116.trans mc_174.symm | exact na_173 | exact k_116.trans mc_173.symm | exact na_175 | exact k_116.trans mc_175.symm | exact c1_i | exact c1_r | exact of_eq_false nf_zGC | exact of_eq_false nf_zBA | exact of_eq_false nf_zDA | exact of_eq_false nf_zCA | exact of_eq_false nf_zBC | exact of_eq_false nf_zDC | exact of_eq_false nf_zSC | exact of_eq_false nf_zSP | exact of_eq_false nf_zLC | exact of_eq_false nf_zLB | exact of_eq_false nf_zLS | exact of_eq_false nf_zLP | exact of_eq_false nf_zTR) | omega | exact Nat.le_of_ble_eq_true rfl | ((with_reducible refine nI_ne0 ?_ ?_) <;> omega)) only [bk_182_0, tn_0, bl_al0, bl_iv1, bk_182_4, tn_4, bl_c38, bl_iv2, bl_if_eq, bl_c1, bl_cm21, bl_goto, bk_182_31, tn_31, bl_rv, Option.bind_some, Option.bind_none, Option.toList_some, Option.toList_none, List.cons_append, List.nil_append, not_false_eq_true, not_true_eq_false, nI_10, nI_00, bI_0, bI_n0, if_true, if_false, true_and, and_true, and_false, false_and, Classical.not_not, ↓reduceIte, eq_self, Nat.reduceAdd, Nat.reduceMul, bl_nil, z_lt, z_le, z_gt, z_ge, nI_add, nI_mul, nI_sub, L_lt, L_le, L_eq, L_e0, N_ltT, N_ltF, N_leT, N_leF, N_eqT, N_eqF, gs_hit, gs_miss, e, e1]
theorem m_orW (hk : ky < 3) (hc : c ≤ 96) (hb : ∀ k, B k < 256) : wR X B c ky 183 10 := by
  intro s u D hD ok h
  obtain ⟨D, rfl⟩ : ∃ D', D = D' + 10 := ⟨D - 10, by omega⟩
  obtain ⟨x, e⟩ := m_anW (X := X) (B := B) (c := c) (ky := ky) hk hc hb s u (D + 9) (by omega) ok h
  have h' := wM_o (o := 9) (x := x) (by omega) h
  have e1 := fun y => m_isSgW (X := X) (d := D + 9) (x := y) h'.2
  refine ⟨x, ?_⟩
  rw [cl_183]
  simp -implicitDefEqProofs (disch := first | (with_reducible first | exact rt_183 | exact na_182 | exact k_116.trans mc_182.symm | exact na_174 | exact k_116.trans mc_174.symm | exact na_173 | exact k_116.trans mc_173.symm | exact na_175 | exact k_116.trans mc_175.symm | exact c1_i | exact c1_r | exact of_eq_false nf_zGC | exact of_eq_false nf_zBA | exact of_eq_false nf_zDA | exact of_eq_false nf_zCA | exact of_eq_false nf_zBC | exact of_eq_false nf_zDC | exact of_eq_false nf_zSC | exact of_eq_false nf_zSP | exact of_eq_false nf_zLC | exact of_eq_false nf_zLB | exact of_eq_false nf_zLS | exact of_eq_false nf_zLP | exact of_eq_false nf_zTR) | omega | exact Nat.le_of_ble_eq_true rfl | ((with_reducible refine nI_ne0 ?_ ?_) <;> omega)) only [bk_183_0, tn_0, bl_al0, bl_iv1, bk_183_4, tn_4, bl_c124, bl_iv2, bl_if_eq, bl_c1, bl_cm20, bl_goto, bk_183_31, tn_31, bl_rv, Option.bind_some, Option.bind_none, Option.toList_some, Option.toList_none, List.cons_append, List.nil_append, not_false_eq_true, not_true_eq_false, nI_10, nI_00, bI_0, bI_n0, if_true, if_false, true_and, and_true, and_false, false_and, Classical.not_not, ↓reduceIte, eq_self, Nat.reduceAdd, Nat.reduceMul, bl_nil, z_lt, z_le, z_gt, z_ge, nI_add, nI_mul, nI_sub, L_lt, L_le, L_eq, L_e0, N_ltT, N_ltF, N_leT, N_leF, N_eqT, N_eqF, gs_hit, gs_miss, e, e1]
theorem m_pcS (hk : ky < 3) (hc : c ≤ 96) (hb : ∀ k, B k < 256) (hP : mR X B c ky f 5 177) (hL : mR X B c ky f 0 183) : mR X B c ky (f + 1) 5 177 := by
  intro p q s u D hp hq hf hD ok h hl h7 h8
  obtain ⟨D, rfl⟩ : ∃ D', D = D' + 20 := ⟨D - 20, by omega⟩
  have e33 := m_isSg (X := X) (d := D + 19) (g := 33) (by omega) (by omega) hc hb ok h
  have e40 := m_isSg (X := X) (d := D + 19) (g := 40) (by omega) (by omega) hc hb ok h
  obtain ⟨n1, n2⟩ := okT_nx (B := B) (c := c) (s := s) ok.2.2.1
  have hcode : (nxS B c s).2.2.2.1 = s.2.2.2.1 := rfl
  rw [pG, if_pos (Nat.le_refl 5), cl_177]
  by_cases g33 : sgS B s = 33
  · rw [if_pos g33] at e33 ⊢
    have h3 := sg_3 (B := B) (s := s) (by omega)
    have n3 := ok.2.2.2.1 h3
    by_cases hq8 : q < 8
    · rw [if_pos hq8]
      obtain ⟨u1, e1, R1, F1⟩ := m_must1 (X := X) (d := D + 16) hc hb ok h
      have h81 : u1 54 8 = nI q := by rw [F1.2 8 (by omega) (by omega) (by omega) (by omega) (by omega) (by omega)]; exact h8
      have h71 : u1 54 7 = nI p := by rw [F1.2 7 (by omega) (by omega) (by omega) (by omega) (by omega) (by omega)]; exact h7
      obtain ⟨u2, e2, F2, S2, W2⟩ := hP p (q + 1) (nxS B c s) (gt_set u1 54 8 (nI (q + 1))) (D + 19) hp (by omega) (by omega) (by omega) n1 (rM_o (by omega) R1) (by rw [hcode]; omega) (by rw [gs_miss (by omega)]; exact h71) gt_set_eq
      obtain ⟨q1, q2, q3⟩ := pG_ok hk f 5 p (q + 1) (nxS B c s) n1
      have h82 : u2 54 8 = nI (q + 1) := by rw [F2.2 8 (by omega) (by omega) (by omega) (by omega) (by omega) (by omega), gt_set_eq]
      have es : nI (q + 1) - nI 1 = nI q := by rw [nI_sub (by omega), Nat.add_sub_cancel]
      have G2 : fX 8 u (gt_set u2 54 8 (nI q)) := fX_trans (fX_R F1) (fX_trans fX_set (fX_trans (fX_R F2) fX_set))
      generalize pG B c ky f 5 p (q + 1) (nxS B c s) = r at *
      by_cases hr : r.1 = true
      · rw [if_pos hr]
        obtain ⟨r0, l2, r1, r2, r3, r4⟩ := q3 hr
        have hl2 : r.2.2.2.2.1.length + 1 ≤ r.2.2.1 := by
          rw [r1, List.length_append, hcode]
          omega
        obtain ⟨u3, e3, R3, F3⟩ := rM_em (X := X) (d := D + 19) (x := 20033) (rM_o (o := 8) (x := nI q) (by omega) (S2 hr)) (ok_len r0 hc hl2)
        have e3 : gm_cl' X (D + 19) 175 [.ref 116, .int (-29)] (gt_h (gt_set u2 54 8 (nI q))) = some (none, gt_h u3) := e3
        refine ⟨u3, ?_, fX_done (fX_trans G2 (fX_R F3)) (by rw [F3.2 8 (by omega) (by omega) (by omega) (by omega) (by omega) (by omega), gt_set_eq]; exact h8.symm), fun _ => R3, fun y => absurd rfl y⟩
        simp -implicitDefEqProofs (disch := first | (with_reducible first | exact rt_177 | exact na_174 | exact k_116.trans mc_174.symm | exact na_173 | exact k_116.trans mc_173.symm | exact na_177 | exact k_116.trans mc_177.symm | exact na_175 | exact k_116.trans mc_175.symm | exact na_183 | exact k_116.trans mc_183.symm | exact na_178 | exact k_116.trans mc_178.symm | exact c1_i | exact c1_r | exact of_eq_false nf_zGC | exact of_eq_false nf_zBA | exact of_eq_false nf_zDA | exact of_eq_false nf_zCA | exact of_eq_false nf_zBC | exact of_eq_false nf_zDC | exact of_eq_false nf_zSC | exact of_eq_false nf_zSP | exact of_eq_false nf_zLC | exact of_eq_false nf_zLB | exact of_eq_false nf_zLS | exact of_eq_false nf_zLP | exact of_eq_false nf_zTR) | omega | exact Nat.le_of_ble_eq_true rfl | ((with_reducible refine nI_ne0 ?_ ?_) <;> omega)) only [bk_177_0, tn_0, bl_al0, bl_c33, bl_iv2, bl_if_eq, bf_116_14, bl_c8, bl_ic_ge, bl_c1, bl_goto, bk_177_23, tn_23, bl_c0, bk_177_24, tn_24, bl_dupi, bl_dupr, bl_iadd, bpf_116_14, bl_iv1, bl_isub, bl_cm29, bk_177_60, tn_60, bl_c40, bf_116_13, bk_177_83, tn_83, bk_177_84, tn_84, bpf_116_13, bl_c41, bk_177_124, tn_124, bk_177_128, tn_128, bl_rv, Option.bind_some, Option.bind_none, Option.toList_some, Option.toList_none, List.cons_append, List.nil_append, not_false_eq_true, not_true_eq_false, nI_10, nI_00, bI_0, bI_n0, if_true, if_false, true_and, and_true, and_false, false_and, Classical.not_not, ↓reduceIte, eq_self, Nat.reduceAdd, Nat.reduceMul, bl_nil, z_lt, z_le, z_gt, z_ge, nI_add, nI_mul, nI_sub, L_lt, L_le, L_eq, L_e0, N_ltT, N_ltF, N_leT, N_leF, N_eqT, N_eqF, gs_hit, gs_miss, e33, h8, h81, e1, e2, h82, es, e3]
      · rw [if_neg hr]
        have W3 := wM_o (o := 8) (x := nI q) (by omega) (W2 hr)
        have e3 := m_stepW (X := X) (d := D + 19) (x := -29) W3.2
        refine ⟨_, ?_, fX_done G2 (by rw [gt_set_eq]; exact h8.symm), fun y => (by cases y), fun _ => W3⟩
        simp -implicitDefEqProofs (disch := first | (with_reducible first | exact rt_177 | exact na_174 | exact k_116.trans mc_174.symm | exact na_173 | exact k_116.trans mc_173.symm | exact na_177 | exact k_116.trans mc_177.symm | exact na_175 | exact k_116.trans mc_175.symm | exact na_183 | exact k_116.trans mc_183.symm | exact na_178 | exact k_116.trans mc_178.symm | exact c1_i | exact c1_r | exact of_eq_false nf_zGC | exact of_eq_false nf_zBA | exact of_eq_false nf_zDA | exact of_eq_false nf_zCA | exact of_eq_false nf_zBC | exact of_eq_false nf_zDC | exact of_eq_false nf_zSC | exact of_eq_false nf_zSP | exact of_eq_false nf_zLC | exact of_eq_false nf_zLB | exact of_eq_false nf_zLS | exact of_eq_false nf_zLP | exact of_eq_false nf_zTR) | omega | exact Nat.le_of_ble_eq_true rfl | ((with_reducible refine nI_ne0 ?_ ?_) <;> omega)) only [bk_177_0, tn_0, bl_al0, bl_c33, bl_iv2, bl_if_eq, bf_116_14, bl_c8, bl_ic_ge, bl_c1, bl_goto, bk_177_23, tn_23, bl_c0, bk_177_24, tn_24, bl_dupi, bl_dupr, bl_iadd, bpf_116_14, bl_iv1, bl_isub, bl_cm29, bk_177_60, tn_60, bl_c40, bf_116_13, bk_177_83, tn_83, bk_177_84, tn_84, bpf_116_13, bl_c41, bk_177_124, tn_124, bk_177_128, tn_128, bl_rv, Option.bind_some, Option.bind_none, Option.toList_some, Option.toList_none, List.cons_append, List.nil_append, not_false_eq_true, not_true_eq_false, nI_10, nI_00, bI_0, bI_n0, if_true, if_false, true_and, and_true, and_false, false_and, Classical.not_not, ↓reduceIte, eq_self, Nat.reduceAdd, Nat.reduceMul, bl_nil, z_lt, z_le, z_gt, z_ge, nI_add, nI_mul, nI_sub, L_lt, L_le, L_eq, L_e0, N_ltT, N_ltF, N_leT, N_leF, N_eqT, N_eqF, gs_hit, gs_miss, e33, h8, h81, e1, e2, h82, es, e3]
    · rw [if_neg hq8]
      have hq9 : q = 8 := by omega
      subst hq9
      obtain ⟨e1, W1⟩ := m_must0 (X := X) (d := D + 16) h
      have W1' := wM_o (o := 8) (x := nI 9) (by omega) W1
      obtain ⟨x, e2⟩ := m_pcW (X := X) (B := B) (c := c) (ky := ky) hk hc hb s _ (D + 19) (by omega) ok W1'
      have W2 := wM_o (o := 8) (x := nI 8) (by omega) (wM_o (o := 9) (x := x) (by omega) W1')
      have e3 := m_stepW (X := X) (d := D + 19) (x := -29) W2.2
      have es : nI 9 - nI 1 = nI 8 := by rw [nI_sub (by omega)]
      refine ⟨_, ?_, fX_done (k := 8) (fX_trans (fX_R (fR_set (by omega))) (fX_trans fX_set (fX_trans (fX_R (fR_set (by omega))) fX_set))) (by rw [gt_set_eq]; exact h8.symm), fun y => (by cases y), fun _ => W2⟩
      simp -implicitDefEqProofs (disch := first | (with_reducible first | exact rt_177 | exact na_174 | exact k_116.trans mc_174.symm | exact na_173 | exact k_116.trans mc_173.symm | exact na_177 | exact k_116.trans mc_177.symm | exact na_175 | exact k_116.trans mc_175.symm | exact na_183 | exact k_116.trans mc_183.symm | exact na_178 | exact k_116.trans mc_178.symm | exact c1_i | exact c1_r | exact of_eq_false nf_zGC | exact of_eq_false nf_zBA | exact of_eq_false nf_zDA | exact of_eq_false nf_zCA | exact of_eq_false nf_zBC | exact of_eq_false nf_zDC | exact of_eq_false nf_zSC | exact of_eq_false nf_zSP | exact of_eq_false nf_zLC | exact of_eq_false nf_zLB | exact of_eq_false nf_zLS | exact of_eq_false nf_zLP | exact of_eq_false nf_zTR) | omega | exact Nat.le_of_ble_eq_true rfl | ((with_reducible refine nI_ne0 ?_ ?_) <;> omega)) only [bk_177_0, tn_0, bl_al0, bl_c33, bl_iv2, bl_if_eq, bf_116_14, bl_c8, bl_ic_ge, bl_c1, bl_goto, bk_177_23, tn_23, bl_c0, bk_177_24, tn_24, bl_dupi, bl_dupr, bl_iadd, bpf_116_14, bl_iv1, bl_isub, bl_cm29, bk_177_60, tn_60, bl_c40, bf_116_13, bk_177_83, tn_83, bk_177_84, tn_84, bpf_116_13, bl_c41, bk_177_124, tn_124, bk_177_128, tn_128, bl_rv, Option.bind_some, Option.bind_none, Option.toList_some, Option.toList_none, List.cons_append, List.nil_append, not_false_eq_true, not_true_eq_false, nI_10, nI_00, bI_0, bI_n0, if_true, if_false, true_and, and_true, and_false, false_and, Classical.not_not, ↓reduceIte, eq_self, Nat.reduceAdd, Nat.reduceMul, bl_nil, z_lt, z_le, z_gt, z_ge, nI_add, nI_mul, nI_sub, L_lt, L_le, L_eq, L_e0, N_ltT, N_ltF, N_leT, N_leF, N_eqT, N_eqF, gs_hit, gs_miss, e33, h8, e1, e2, es, e3]
  · rw [if_neg g33] at e33 ⊢
    by_cases g40 : sgS B s = 40
    · rw [if_pos g40] at e40 ⊢
      have h3 := sg_3 (B := B) (s := s) (by omega)
      have n3 := ok.2.2.2.1 h3
      by_cases hp8 : p < 8
      · rw [if_pos hp8]
        obtain ⟨u1, e1, R1, F1⟩ := m_must1 (X := X) (d := D + 16) hc hb ok h
        have h81 : u1 54 8 = nI q := by rw [F1.2 8 (by omega) (by omega) (by omega) (by omega) (by omega) (by omega)]; exact h8
        have h71 : u1 54 7 = nI p := by rw [F1.2 7 (by omega) (by omega) (by omega) (by omega) (by omega) (by omega)]; exact h7
        obtain ⟨u2, e2, F2, S2, W2⟩ := hL (p + 1) q (nxS B c s) (gt_set u1 54 7 (nI (p + 1))) (D + 19) (by omega) hq (by omega) (by omega) n1 (rM_o (by omega) R1) (by rw [hcode]; omega) gt_set_eq (by rw [gs_miss (by omega)]; exact h81)
        obtain ⟨q1, q2, q3⟩ := pG_ok hk f 0 (p + 1) q (nxS B c s) n1
        have h72 : u2 54 7 = nI (p + 1) := by rw [F2.2 7 (by omega) (by omega) (by omega) (by omega) (by omega) (by omega), gt_set_eq]
        have es : nI (p + 1) - nI 1 = nI p := by rw [nI_sub (by omega), Nat.add_sub_cancel]
        have G2 : fX 7 u u2 := fX_trans (fX_R F1) (fX_trans fX_set (fX_R F2))
        generalize pG B c ky f 0 (p + 1) q (nxS B c s) = r at *
        by_cases hr : r.1 = true
        · rw [if_pos hr]
          have e41 := m_isSg (X := X) (d := D + 19) (g := 41) (by omega) (by omega) hc hb q1 (S2 hr)
          by_cases g41 : sgS B r.2 = 41
          · rw [if_pos g41] at e41 ⊢
            obtain ⟨u3, e3, R3, F3⟩ := m_must1 (X := X) (d := D + 16) hc hb q1 (S2 hr)
            have h73 : u3 54 7 = nI (p + 1) := by rw [F3.2 7 (by omega) (by omega) (by omega) (by omega) (by omega) (by omega)]; exact h72
            refine ⟨gt_set u3 54 7 (nI p), ?_, fX_done (k := 7) (fX_trans G2 (fX_trans (fX_R F3) fX_set)) (by rw [gt_set_eq]; exact h7.symm), fun _ => rM_o (by omega) R3, fun y => absurd rfl y⟩
            simp -implicitDefEqProofs (disch := first | (with_reducible first | exact rt_177 | exact na_174 | exact k_116.trans mc_174.symm | exact na_173 | exact k_116.trans mc_173.symm | exact na_177 | exact k_116.trans mc_177.symm | exact na_175 | exact k_116.trans mc_175.symm | exact na_183 | exact k_116.trans mc_183.symm | exact na_178 | exact k_116.trans mc_178.symm | exact c1_i | exact c1_r | exact of_eq_false nf_zGC | exact of_eq_false nf_zBA | exact of_eq_false nf_zDA | exact of_eq_false nf_zCA | exact of_eq_false nf_zBC | exact of_eq_false nf_zDC | exact of_eq_false nf_zSC | exact of_eq_false nf_zSP | exact of_eq_false nf_zLC | exact of_eq_false nf_zLB | exact of_eq_false nf_zLS | exact of_eq_false nf_zLP | exact of_eq_false nf_zTR) | omega | exact Nat.le_of_ble_eq_true rfl | ((with_reducible refine nI_ne0 ?_ ?_) <;> omega)) only [bk_177_0, tn_0, bl_al0, bl_c33, bl_iv2, bl_if_eq, bf_116_14, bl_c8, bl_ic_ge, bl_c1, bl_goto, bk_177_23, tn_23, bl_c0, bk_177_24, tn_24, bl_dupi, bl_dupr, bl_iadd, bpf_116_14, bl_iv1, bl_isub, bl_cm29, bk_177_60, tn_60, bl_c40, bf_116_13, bk_177_83, tn_83, bk_177_84, tn_84, bpf_116_13, bl_c41, bk_177_124, tn_124, bk_177_128, tn_128, bl_rv, Option.bind_some, Option.bind_none, Option.toList_some, Option.toList_none, List.cons_append, List.nil_append, not_false_eq_true, not_true_eq_false, nI_10, nI_00, bI_0, bI_n0, if_true, if_false, true_and, and_true, and_false, false_and, Classical.not_not, ↓reduceIte, eq_self, Nat.reduceAdd, Nat.reduceMul, bl_nil, z_lt, z_le, z_gt, z_ge, nI_add, nI_mul, nI_sub, L_lt, L_le, L_eq, L_e0, N_ltT, N_ltF, N_leT, N_leF, N_eqT, N_eqF, gs_hit, gs_miss, e33, e40, h7, h71, e1, e2, h72, es, e41, e3, h73]
          · rw [if_neg g41] at e41 ⊢
            obtain ⟨e3, W3⟩ := m_must0 (X := X) (d := D + 16) (S2 hr)
            refine ⟨gt_set (gt_set u2 54 5 (nI 1)) 54 7 (nI p), ?_, fX_done (k := 7) (fX_trans G2 (fX_trans (fX_R (fR_set (by omega))) fX_set)) (by rw [gt_set_eq]; exact h7.symm), fun y => (by cases y), fun _ => wM_o (by omega) W3⟩
            simp -implicitDefEqProofs (disch := first | (with_reducible first | exact rt_177 | exact na_174 | exact k_116.trans mc_174.symm | exact na_173 | exact k_116.trans mc_173.symm | exact na_177 | exact k_116.trans mc_177.symm | exact na_175 | exact k_116.trans mc_175.symm | exact na_183 | exact k_116.trans mc_183.symm | exact na_178 | exact k_116.trans mc_178.symm | exact c1_i | exact c1_r | exact of_eq_false nf_zGC | exact of_eq_false nf_zBA | exact of_eq_false nf_zDA | exact of_eq_false nf_zCA | exact of_eq_false nf_zBC | exact of_eq_false nf_zDC | exact of_eq_false nf_zSC | exact of_eq_false nf_zSP | exact of_eq_false nf_zLC | exact of_eq_false nf_zLB | exact of_eq_false nf_zLS | exact of_eq_false nf_zLP | exact of_eq_false nf_zTR) | omega | exact Nat.le_of_ble_eq_true rfl | ((with_reducible refine nI_ne0 ?_ ?_) <;> omega)) only [bk_177_0, tn_0, bl_al0, bl_c33, bl_iv2, bl_if_eq, bf_116_14, bl_c8, bl_ic_ge, bl_c1, bl_goto, bk_177_23, tn_23, bl_c0, bk_177_24, tn_24, bl_dupi, bl_dupr, bl_iadd, bpf_116_14, bl_iv1, bl_isub, bl_cm29, bk_177_60, tn_60, bl_c40, bf_116_13, bk_177_83, tn_83, bk_177_84, tn_84, bpf_116_13, bl_c41, bk_177_124, tn_124, bk_177_128, tn_128, bl_rv, Option.bind_some, Option.bind_none, Option.toList_some, Option.toList_none, List.cons_append, List.nil_append, not_false_eq_true, not_true_eq_false, nI_10, nI_00, bI_0, bI_n0, if_true, if_false, true_and, and_true, and_false, false_and, Classical.not_not, ↓reduceIte, eq_self, Nat.reduceAdd, Nat.reduceMul, bl_nil, z_lt, z_le, z_gt, z_ge, nI_add, nI_mul, nI_sub, L_lt, L_le, L_eq, L_e0, N_ltT, N_ltF, N_leT, N_leF, N_eqT, N_eqF, gs_hit, gs_miss, e33, e40, h7, h71, e1, e2, h72, es, e41, e3]
        · rw [if_neg hr]
          have W3 := W2 hr
          have e41 := m_isSgW (X := X) (d := D + 19) (x := nI 41) W3.2
          have e3 := m_mustW (X := X) (d := D + 16) (b := 0) (by omega) W3.2
          refine ⟨gt_set u2 54 7 (nI p), ?_, fX_done (k := 7) (fX_trans G2 fX_set) (by rw [gt_set_eq]; exact h7.symm), fun y => (by cases y), fun _ => wM_o (by omega) W3⟩
          simp -implicitDefEqProofs (disch := first | (with_reducible first | exact rt_177 | exact na_174 | exact k_116.trans mc_174.symm | exact na_173 | exact k_116.trans mc_173.symm | exact na_177 | exact k_116.trans mc_177.symm | exact na_175 | exact k_116.trans mc_175.symm | exact na_183 | exact k_116.trans mc_183.symm | exact na_178 | exact k_116.trans mc_178.symm | exact c1_i | exact c1_r | exact of_eq_false nf_zGC | exact of_eq_false nf_zBA | exact of_eq_false nf_zDA | exact of_eq_false nf_zCA | exact of_eq_false nf_zBC | exact of_eq_false nf_zDC | exact of_eq_false nf_zSC | exact of_eq_false nf_zSP | exact of_eq_false nf_zLC | exact of_eq_false nf_zLB | exact of_eq_false nf_zLS | exact of_eq_false nf_zLP | exact of_eq_false nf_zTR) | omega | exact Nat.le_of_ble_eq_true rfl | ((with_reducible refine nI_ne0 ?_ ?_) <;> omega)) only [bk_177_0, tn_0, bl_al0, bl_c33, bl_iv2, bl_if_eq, bf_116_14, bl_c8, bl_ic_ge, bl_c1, bl_goto, bk_177_23, tn_23, bl_c0, bk_177_24, tn_24, bl_dupi, bl_dupr, bl_iadd, bpf_116_14, bl_iv1, bl_isub, bl_cm29, bk_177_60, tn_60, bl_c40, bf_116_13, bk_177_83, tn_83, bk_177_84, tn_84, bpf_116_13, bl_c41, bk_177_124, tn_124, bk_177_128, tn_128, bl_rv, Option.bind_some, Option.bind_none, Option.toList_some, Option.toList_none, List.cons_append, List.nil_append, not_false_eq_true, not_true_eq_false, nI_10, nI_00, bI_0, bI_n0, if_true, if_false, true_and, and_true, and_false, false_and, Classical.not_not, ↓reduceIte, eq_self, Nat.reduceAdd, Nat.reduceMul, bl_nil, z_lt, z_le, z_gt, z_ge, nI_add, nI_mul, nI_sub, L_lt, L_le, L_eq, L_e0, N_ltT, N_ltF, N_leT, N_leF, N_eqT, N_eqF, gs_hit, gs_miss, e33, e40, h7, h71, e1, e2, h72, es, e41, e3]
      · rw [if_neg hp8]
        have hp9 : p = 8 := by omega
        subst hp9
        obtain ⟨e1, W1⟩ := m_must0 (X := X) (d := D + 16) h
        have W1' := wM_o (o := 7) (x := nI 9) (by omega) W1
        obtain ⟨x, e2⟩ := m_orW (X := X) (B := B) (c := c) (ky := ky) hk hc hb s _ (D + 19) (by omega) ok W1'
        have W2 := wM_o (o := 9) (x := x) (by omega) W1'
        have e41 := m_isSgW (X := X) (d := D + 19) (x := nI 41) W2.2
        have e3 := m_mustW (X := X) (d := D + 16) (b := 0) (by omega) W2.2
        have es : nI 9 - nI 1 = nI 8 := by rw [nI_sub (by omega)]
        refine ⟨_, ?_, fX_done (k := 7) (fX_trans (fX_R (fR_set (by omega))) (fX_trans fX_set (fX_trans (fX_R (fR_set (by omega))) fX_set))) (by rw [gt_set_eq]; exact h7.symm), fun y => (by cases y), fun _ => wM_o (o := 7) (x := nI 8) (by omega) W2⟩
        simp -implicitDefEqProofs (disch := first | (with_reducible first | exact rt_177 | exact na_174 | exact k_116.trans mc_174.symm | exact na_173 | exact k_116.trans mc_173.symm | exact na_177 | exact k_116.trans mc_177.symm | exact na_175 | exact k_116.trans mc_175.symm | exact na_183 | exact k_116.trans mc_183.symm | exact na_178 | exact k_116.trans mc_178.symm | exact c1_i | exact c1_r | exact of_eq_false nf_zGC | exact of_eq_false nf_zBA | exact of_eq_false nf_zDA | exact of_eq_false nf_zCA | exact of_eq_false nf_zBC | exact of_eq_false nf_zDC | exact of_eq_false nf_zSC | exact of_eq_false nf_zSP | exact of_eq_false nf_zLC | exact of_eq_false nf_zLB | exact of_eq_false nf_zLS | exact of_eq_false nf_zLP | exact of_eq_false nf_zTR) | omega | exact Nat.le_of_ble_eq_true rfl | ((with_reducible refine nI_ne0 ?_ ?_) <;> omega)) only [bk_177_0, tn_0, bl_al0, bl_c33, bl_iv2, bl_if_eq, bf_116_14, bl_c8, bl_ic_ge, bl_c1, bl_goto, bk_177_23, tn_23, bl_c0, bk_177_24, tn_24, bl_dupi, bl_dupr, bl_iadd, bpf_116_14, bl_iv1, bl_isub, bl_cm29, bk_177_60, tn_60, bl_c40, bf_116_13, bk_177_83, tn_83, bk_177_84, tn_84, bpf_116_13, bl_c41, bk_177_124, tn_124, bk_177_128, tn_128, bl_rv, Option.bind_some, Option.bind_none, Option.toList_some, Option.toList_none, List.cons_append, List.nil_append, not_false_eq_true, not_true_eq_false, nI_10, nI_00, bI_0, bI_n0, if_true, if_false, true_and, and_true, and_false, false_and, Classical.not_not, ↓reduceIte, eq_self, Nat.reduceAdd, Nat.reduceMul, bl_nil, z_lt, z_le, z_gt, z_ge, nI_add, nI_mul, nI_sub, L_lt, L_le, L_eq, L_e0, N_ltT, N_ltF, N_leT, N_leF, N_eqT, N_eqF, gs_hit, gs_miss, e33, e40, h7, e1, e2, es, e41, e3]
    · rw [if_neg g40] at e40 ⊢
      obtain ⟨u', e, F, S, W⟩ := m_leafR (X := X) (d := D + 15) hk hc hb ok h hl
      refine ⟨u', ?_, F, ?_, ?_⟩
      · simp -implicitDefEqProofs (disch := first | (with_reducible first | exact rt_177 | exact na_174 | exact k_116.trans mc_174.symm | exact na_173 | exact k_116.trans mc_173.symm | exact na_177 | exact k_116.trans mc_177.symm | exact na_175 | exact k_116.trans mc_175.symm | exact na_183 | exact k_116.trans mc_183.symm | exact na_178 | exact k_116.trans mc_178.symm | exact c1_i | exact c1_r | exact of_eq_false nf_zGC | exact of_eq_false nf_zBA | exact of_eq_false nf_zDA | exact of_eq_false nf_zCA | exact of_eq_false nf_zBC | exact of_eq_false nf_zDC | exact of_eq_false nf_zSC | exact of_eq_false nf_zSP | exact of_eq_false nf_zLC | exact of_eq_false nf_zLB | exact of_eq_false nf_zLS | exact of_eq_false nf_zLP | exact of_eq_false nf_zTR) | omega | exact Nat.le_of_ble_eq_true rfl | ((with_reducible refine nI_ne0 ?_ ?_) <;> omega)) only [bk_177_0, tn_0, bl_al0, bl_c33, bl_iv2, bl_if_eq, bf_116_14, bl_c8, bl_ic_ge, bl_c1, bl_goto, bk_177_23, tn_23, bl_c0, bk_177_24, tn_24, bl_dupi, bl_dupr, bl_iadd, bpf_116_14, bl_iv1, bl_isub, bl_cm29, bk_177_60, tn_60, bl_c40, bf_116_13, bk_177_83, tn_83, bk_177_84, tn_84, bpf_116_13, bl_c41, bk_177_124, tn_124, bk_177_128, tn_128, bl_rv, Option.bind_some, Option.bind_none, Option.toList_some, Option.toList_none, List.cons_append, List.nil_append, not_false_eq_true, not_true_eq_false, nI_10, nI_00, bI_0, bI_n0, if_true, if_false, true_and, and_true, and_false, false_and, Classical.not_not, ↓reduceIte, eq_self, Nat.reduceAdd, Nat.reduceMul, bl_nil, z_lt, z_le, z_gt, z_ge, nI_add, nI_mul, nI_sub, L_lt, L_le, L_eq, L_e0, N_ltT, N_ltF, N_leT, N_leF, N_eqT, N_eqF, gs_hit, gs_miss, e33, e40, e]
      · intro y
        by_cases hf9 : lfN B ky s = 20000
        · rw [if_pos hf9] at y
          cases y
        · rw [if_neg hf9]
          exact S hf9
      · intro y
        by_cases hf9 : lfN B ky s = 20000
        · rw [if_pos hf9]
          exact W hf9
        · rw [if_neg hf9] at y
          exact absurd rfl y
theorem m_tmL {p q D : Nat} (hk : ky < 3) (hc : c ≤ 96) (hb : ∀ k, B k < 256) (hS : mR X B c ky f 5 177) (hp : p ≤ 8) (hq : q ≤ 8) (hf : 7 * ((8 - p) + (8 - q)) + (5 - 4) + 1 ≤ f + 1) (hD : 7 * (8 - p) + (8 - q) + (5 - 4) + 20 ≤ D + 20) : ∀ (k : Nat) (s : pS) (u : gt_M) (v1 : Value), 96 ≤ k + s.2.1 → okT B c s → rM B c ky u s → s.2.2.2.1.length ≤ s.2.1 → u 54 7 = nI p → u 54 8 = nI q → ∃ u', gm_ev X (D + 20) 179 4 [.ref 116, v1] [] (gt_h u) = some (none, gt_h u') ∧ fR u u' ∧ ((pLp B c (pG B c ky f 5 p q) 4 k s).1 = true → rM B c ky u' (pLp B c (pG B c ky f 5 p q) 4 k s).2) ∧ (¬ (pLp B c (pG B c ky f 5 p q) 4 k s).1 = true → wM B c ky u' (pLp B c (pG B c ky f 5 p q) 4 k s).2) := by
  intro k
  induction k with
  | zero =>
    intro s u v1 hk9 ok h hl h7 h8
    have n3 : ¬ s.1 = 3 := fun y => by
      have a1 := ok.2.2.2.1 y
      have a2 := ok.2.2.1
      omega
    have s0 : sgS B s = 0 := if_neg n3
    have eA := m_isSg (X := X) (d := D + 19) (g := 42) (by omega) (by omega) hc hb ok h
    have eB := m_isSg (X := X) (d := D + 19) (g := 47) (by omega) (by omega) hc hb ok h
    rw [if_neg (by omega)] at eA eB
    refine ⟨u, ?_, fR_refl, fun _ => h, fun y => absurd rfl y⟩
    rw [bk_179_4]
    simp -implicitDefEqProofs (disch := first | (with_reducible first | exact rt_179 | exact na_177 | exact k_116.trans mc_177.symm | exact na_174 | exact k_116.trans mc_174.symm | exact na_173 | exact k_116.trans mc_173.symm | exact na_175 | exact k_116.trans mc_175.symm | exact c1_i | exact c1_r | exact of_eq_false nf_zGC | exact of_eq_false nf_zBA | exact of_eq_false nf_zDA | exact of_eq_false nf_zCA | exact of_eq_false nf_zBC | exact of_eq_false nf_zDC | exact of_eq_false nf_zSC | exact of_eq_false nf_zSP | exact of_eq_false nf_zLC | exact of_eq_false nf_zLB | exact of_eq_false nf_zLS | exact of_eq_false nf_zLP | exact of_eq_false nf_zTR) | omega | exact Nat.le_of_ble_eq_true rfl | ((with_reducible refine nI_ne0 ?_ ?_) <;> omega)) only [bk_179_0, tn_0, bl_al0, bl_iv1, tn_4, bl_c42, bl_iv2, bl_if_ne, bl_c47, bl_if_eq, bk_179_22, tn_22, bf_116_4, bf_116_8, ba_zCA, ba_zTR, ba_zSP, ba_zLP, ba_18, ba_19, ba_20, ba_21, ba_83, ba_87, ba_117, ba_118, ba_119, ba_120, ba_123, ba_124, ba_125, ba_126, ba_127, ba_128, ba_129, ba_130, ba_131, ba_132, bl_ic_ne, bl_cm27, bl_goto, bk_179_41, tn_41, bl_cm28, bk_179_43, tn_43, bl_is1, bl_c1, bl_il1, bk_179_61, tn_61, bl_rv, Option.bind_some, Option.bind_none, Option.toList_some, Option.toList_none, List.cons_append, List.nil_append, not_false_eq_true, not_true_eq_false, nI_10, nI_00, bI_0, bI_n0, if_true, if_false, true_and, and_true, and_false, false_and, Classical.not_not, ↓reduceIte, eq_self, Nat.reduceAdd, Nat.reduceMul, bl_nil, z_lt, z_le, z_gt, z_ge, nI_add, nI_mul, nI_sub, L_lt, L_le, L_eq, L_e0, N_ltT, N_ltF, N_leT, N_leF, N_eqT, N_eqF, gs_hit, gs_miss, eA, eB]
  | succ k ih =>
    intro s u v1 hk9 ok h hl h7 h8
    have eA := m_isSg (X := X) (d := D + 19) (g := 42) (by omega) (by omega) hc hb ok h
    have eB := m_isSg (X := X) (d := D + 19) (g := 47) (by omega) (by omega) hc hb ok h
    rw [pLp]
    by_cases hg : lvO (sgS B s) = 4
    · rw [if_pos hg]
      obtain ⟨z1, z2, z3⟩ := lv_op (ky := ky) hg (by omega)
      have h3 := sg_3 (B := B) (s := s) z3
      have hBs : sgS B s = B s.2.1 := if_pos h3
      have ho : sgS B s = 42 ∨ sgS B s = 47 := (lvO_inv (g := sgS B s)).2.2.2.2 hg
      obtain ⟨n1, n2⟩ := okT_nx (B := B) (c := c) (s := s) ok.2.2.1
      have n3 := ok.2.2.2.1 h3
      have n4 := ok.2.2.1
      have hcode : (nxS B c s).2.2.2.1 = s.2.2.2.1 := rfl
      have t1 := h.1.2.1
      have t2 := h.1.2.2.2.2.2 s.2.1 (by omega)
      obtain ⟨u1, e1, R1, F1⟩ := m_must1 (X := X) (d := D + 16) hc hb ok h
      have h81 : u1 54 8 = nI q := by rw [F1.2 8 (by omega) (by omega) (by omega) (by omega) (by omega) (by omega)]; exact h8
      have h71 : u1 54 7 = nI p := by rw [F1.2 7 (by omega) (by omega) (by omega) (by omega) (by omega) (by omega)]; exact h7
      obtain ⟨u2, e2, F2, S2, W2⟩ := hS p q (nxS B c s) u1 (D + 19) hp hq (by omega) (by omega) n1 R1 (by rw [hcode]; omega) h71 h81
      obtain ⟨q1, q2, q3⟩ := pG_ok hk f 5 p q (nxS B c s) n1
      have h82 : u2 54 8 = nI q := by rw [F2.2 8 (by omega) (by omega) (by omega) (by omega) (by omega) (by omega)]; exact h81
      have h72 : u2 54 7 = nI p := by rw [F2.2 7 (by omega) (by omega) (by omega) (by omega) (by omega) (by omega)]; exact h71
      generalize hr0 : pG B c ky f 5 p q (nxS B c s) = r at *
      by_cases hr : r.1 = true
      · rw [if_pos hr]
        obtain ⟨r0, l2, r1, r2, r3, r4⟩ := q3 hr
        have hl2 : r.2.2.2.2.1.length + 1 ≤ r.2.2.1 := by
          rw [r1, List.length_append, hcode]
          omega
        obtain ⟨u3, e3, R3, F3⟩ := rM_em (X := X) (d := D + 19) (x := 20000 + sgS B s) (S2 hr) (ok_len r0 hc hl2)
        obtain ⟨u', e, F, S, W⟩ := ih (emS (20000 + sgS B s) r.2) u3 (.int (rfI (20000 + sgS B s))) (by show 96 ≤ k + r.2.2.1; omega) r0 R3 (by
          show (r.2.2.2.2.1 ++ [20000 + sgS B s]).length ≤ r.2.2.1
          rw [List.length_append, List.length_singleton]
          exact hl2) (by rw [F3.2 7 (by omega) (by omega) (by omega) (by omega) (by omega) (by omega)]; exact h72) (by rw [F3.2 8 (by omega) (by omega) (by omega) (by omega) (by omega) (by omega)]; exact h82)
        refine ⟨u', ?_, fR_trans F1 (fR_trans F2 (fR_trans F3 F)), S, W⟩
        rw [← e, bk_179_4]
        rcases ho with ho | ho
        · rw [if_pos ho] at eA
          have g1 : u 43 s.2.1 = nI 42 := by rw [t2, ← hBs, ho]
          have er : rfI (20000 + sgS B s) = -27 := by rw [ho]; rfl
          rw [er] at e3
          rw [er]
          simp -implicitDefEqProofs (disch := first | (with_reducible first | exact rt_179 | exact na_177 | exact k_116.trans mc_177.symm | exact na_174 | exact k_116.trans mc_174.symm | exact na_173 | exact k_116.trans mc_173.symm | exact na_175 | exact k_116.trans mc_175.symm | exact c1_i | exact c1_r | exact of_eq_false nf_zGC | exact of_eq_false nf_zBA | exact of_eq_false nf_zDA | exact of_eq_false nf_zCA | exact of_eq_false nf_zBC | exact of_eq_false nf_zDC | exact of_eq_false nf_zSC | exact of_eq_false nf_zSP | exact of_eq_false nf_zLC | exact of_eq_false nf_zLB | exact of_eq_false nf_zLS | exact of_eq_false nf_zLP | exact of_eq_false nf_zTR) | omega | exact Nat.le_of_ble_eq_true rfl | ((with_reducible refine nI_ne0 ?_ ?_) <;> omega)) only [bk_179_0, tn_0, bl_al0, bl_iv1, tn_4, bl_c42, bl_iv2, bl_if_ne, bl_c47, bl_if_eq, bk_179_22, tn_22, bf_116_4, bf_116_8, ba_zCA, ba_zTR, ba_zSP, ba_zLP, ba_18, ba_19, ba_20, ba_21, ba_83, ba_87, ba_117, ba_118, ba_119, ba_120, ba_123, ba_124, ba_125, ba_126, ba_127, ba_128, ba_129, ba_130, ba_131, ba_132, bl_ic_ne, bl_cm27, bl_goto, bk_179_41, tn_41, bl_cm28, bk_179_43, tn_43, bl_is1, bl_c1, bl_il1, bk_179_61, tn_61, bl_rv, Option.bind_some, Option.bind_none, Option.toList_some, Option.toList_none, List.cons_append, List.nil_append, not_false_eq_true, not_true_eq_false, nI_10, nI_00, bI_0, bI_n0, if_true, if_false, true_and, and_true, and_false, false_and, Classical.not_not, ↓reduceIte, eq_self, Nat.reduceAdd, Nat.reduceMul, bl_nil, z_lt, z_le, z_gt, z_ge, nI_add, nI_mul, nI_sub, L_lt, L_le, L_eq, L_e0, N_ltT, N_ltF, N_leT, N_leF, N_eqT, N_eqF, gs_hit, gs_miss, eA, eB, t1, g1, e1, e2, e3]
        · rw [if_neg (by omega)] at eA
          rw [if_pos ho] at eB
          have g1 : u 43 s.2.1 = nI 47 := by rw [t2, ← hBs, ho]
          have er : rfI (20000 + sgS B s) = -28 := by rw [ho]; rfl
          rw [er] at e3
          rw [er]
          simp -implicitDefEqProofs (disch := first | (with_reducible first | exact rt_179 | exact na_177 | exact k_116.trans mc_177.symm | exact na_174 | exact k_116.trans mc_174.symm | exact na_173 | exact k_116.trans mc_173.symm | exact na_175 | exact k_116.trans mc_175.symm | exact c1_i | exact c1_r | exact of_eq_false nf_zGC | exact of_eq_false nf_zBA | exact of_eq_false nf_zDA | exact of_eq_false nf_zCA | exact of_eq_false nf_zBC | exact of_eq_false nf_zDC | exact of_eq_false nf_zSC | exact of_eq_false nf_zSP | exact of_eq_false nf_zLC | exact of_eq_false nf_zLB | exact of_eq_false nf_zLS | exact of_eq_false nf_zLP | exact of_eq_false nf_zTR) | omega | exact Nat.le_of_ble_eq_true rfl | ((with_reducible refine nI_ne0 ?_ ?_) <;> omega)) only [bk_179_0, tn_0, bl_al0, bl_iv1, tn_4, bl_c42, bl_iv2, bl_if_ne, bl_c47, bl_if_eq, bk_179_22, tn_22, bf_116_4, bf_116_8, ba_zCA, ba_zTR, ba_zSP, ba_zLP, ba_18, ba_19, ba_20, ba_21, ba_83, ba_87, ba_117, ba_118, ba_119, ba_120, ba_123, ba_124, ba_125, ba_126, ba_127, ba_128, ba_129, ba_130, ba_131, ba_132, bl_ic_ne, bl_cm27, bl_goto, bk_179_41, tn_41, bl_cm28, bk_179_43, tn_43, bl_is1, bl_c1, bl_il1, bk_179_61, tn_61, bl_rv, Option.bind_some, Option.bind_none, Option.toList_some, Option.toList_none, List.cons_append, List.nil_append, not_false_eq_true, not_true_eq_false, nI_10, nI_00, bI_0, bI_n0, if_true, if_false, true_and, and_true, and_false, false_and, Classical.not_not, ↓reduceIte, eq_self, Nat.reduceAdd, Nat.reduceMul, bl_nil, z_lt, z_le, z_gt, z_ge, nI_add, nI_mul, nI_sub, L_lt, L_le, L_eq, L_e0, N_ltT, N_ltF, N_leT, N_leF, N_eqT, N_eqF, gs_hit, gs_miss, eA, eB, t1, g1, e1, e2, e3]
      · rw [if_neg hr]
        have W3 := W2 hr
        have e3 := fun y => m_stepW (X := X) (d := D + 19) (x := y) W3.2
        have e4 := fun y => m_isSgW (X := X) (d := D + 19) (x := y) W3.2
        refine ⟨u2, ?_, fR_trans F1 F2, fun y => (by cases y), fun _ => W3⟩
        rw [bk_179_4]
        rcases ho with ho | ho
        · rw [if_pos ho] at eA
          have g1 : u 43 s.2.1 = nI 42 := by rw [t2, ← hBs, ho]
          simp -implicitDefEqProofs (disch := first | (with_reducible first | exact rt_179 | exact na_177 | exact k_116.trans mc_177.symm | exact na_174 | exact k_116.trans mc_174.symm | exact na_173 | exact k_116.trans mc_173.symm | exact na_175 | exact k_116.trans mc_175.symm | exact c1_i | exact c1_r | exact of_eq_false nf_zGC | exact of_eq_false nf_zBA | exact of_eq_false nf_zDA | exact of_eq_false nf_zCA | exact of_eq_false nf_zBC | exact of_eq_false nf_zDC | exact of_eq_false nf_zSC | exact of_eq_false nf_zSP | exact of_eq_false nf_zLC | exact of_eq_false nf_zLB | exact of_eq_false nf_zLS | exact of_eq_false nf_zLP | exact of_eq_false nf_zTR) | omega | exact Nat.le_of_ble_eq_true rfl | ((with_reducible refine nI_ne0 ?_ ?_) <;> omega)) only [bk_179_0, tn_0, bl_al0, bl_iv1, tn_4, bl_c42, bl_iv2, bl_if_ne, bl_c47, bl_if_eq, bk_179_22, tn_22, bf_116_4, bf_116_8, ba_zCA, ba_zTR, ba_zSP, ba_zLP, ba_18, ba_19, ba_20, ba_21, ba_83, ba_87, ba_117, ba_118, ba_119, ba_120, ba_123, ba_124, ba_125, ba_126, ba_127, ba_128, ba_129, ba_130, ba_131, ba_132, bl_ic_ne, bl_cm27, bl_goto, bk_179_41, tn_41, bl_cm28, bk_179_43, tn_43, bl_is1, bl_c1, bl_il1, bk_179_61, tn_61, bl_rv, Option.bind_some, Option.bind_none, Option.toList_some, Option.toList_none, List.cons_append, List.nil_append, not_false_eq_true, not_true_eq_false, nI_10, nI_00, bI_0, bI_n0, if_true, if_false, true_and, and_true, and_false, false_and, Classical.not_not, ↓reduceIte, eq_self, Nat.reduceAdd, Nat.reduceMul, bl_nil, z_lt, z_le, z_gt, z_ge, nI_add, nI_mul, nI_sub, L_lt, L_le, L_eq, L_e0, N_ltT, N_ltF, N_leT, N_leF, N_eqT, N_eqF, gs_hit, gs_miss, eA, eB, t1, g1, e1, e2, e3]
          rw [bk_179_4]
          simp -implicitDefEqProofs (disch := first | (with_reducible first | exact rt_179 | exact na_177 | exact k_116.trans mc_177.symm | exact na_174 | exact k_116.trans mc_174.symm | exact na_173 | exact k_116.trans mc_173.symm | exact na_175 | exact k_116.trans mc_175.symm | exact c1_i | exact c1_r | exact of_eq_false nf_zGC | exact of_eq_false nf_zBA | exact of_eq_false nf_zDA | exact of_eq_false nf_zCA | exact of_eq_false nf_zBC | exact of_eq_false nf_zDC | exact of_eq_false nf_zSC | exact of_eq_false nf_zSP | exact of_eq_false nf_zLC | exact of_eq_false nf_zLB | exact of_eq_false nf_zLS | exact of_eq_false nf_zLP | exact of_eq_false nf_zTR) | omega | exact Nat.le_of_ble_eq_true rfl | ((with_reducible refine nI_ne0 ?_ ?_) <;> omega)) only [bk_179_0, tn_0, bl_al0, bl_iv1, tn_4, bl_c42, bl_iv2, bl_if_ne, bl_c47, bl_if_eq, bk_179_22, tn_22, bf_116_4, bf_116_8, ba_zCA, ba_zTR, ba_zSP, ba_zLP, ba_18, ba_19, ba_20, ba_21, ba_83, ba_87, ba_117, ba_118, ba_119, ba_120, ba_123, ba_124, ba_125, ba_126, ba_127, ba_128, ba_129, ba_130, ba_131, ba_132, bl_ic_ne, bl_cm27, bl_goto, bk_179_41, tn_41, bl_cm28, bk_179_43, tn_43, bl_is1, bl_c1, bl_il1, bk_179_61, tn_61, bl_rv, Option.bind_some, Option.bind_none, Option.toList_some, Option.toList_none, List.cons_append, List.nil_append, not_false_eq_true, not_true_eq_false, nI_10, nI_00, bI_0, bI_n0, if_true, if_false, true_and, and_true, and_false, false_and, Classical.not_not, ↓reduceIte, eq_self, Nat.reduceAdd, Nat.reduceMul, bl_nil, z_lt, z_le, z_gt, z_ge, nI_add, nI_mul, nI_sub, L_lt, L_le, L_eq, L_e0, N_ltT, N_ltF, N_leT, N_leF, N_eqT, N_eqF, gs_hit, gs_miss, e4]
        · rw [if_neg (by omega)] at eA
          rw [if_pos ho] at eB
          have g1 : u 43 s.2.1 = nI 47 := by rw [t2, ← hBs, ho]
          simp -implicitDefEqProofs (disch := first | (with_reducible first | exact rt_179 | exact na_177 | exact k_116.trans mc_177.symm | exact na_174 | exact k_116.trans mc_174.symm | exact na_173 | exact k_116.trans mc_173.symm | exact na_175 | exact k_116.trans mc_175.symm | exact c1_i | exact c1_r | exact of_eq_false nf_zGC | exact of_eq_false nf_zBA | exact of_eq_false nf_zDA | exact of_eq_false nf_zCA | exact of_eq_false nf_zBC | exact of_eq_false nf_zDC | exact of_eq_false nf_zSC | exact of_eq_false nf_zSP | exact of_eq_false nf_zLC | exact of_eq_false nf_zLB | exact of_eq_false nf_zLS | exact of_eq_false nf_zLP | exact of_eq_false nf_zTR) | omega | exact Nat.le_of_ble_eq_true rfl | ((with_reducible refine nI_ne0 ?_ ?_) <;> omega)) only [bk_179_0, tn_0, bl_al0, bl_iv1, tn_4, bl_c42, bl_iv2, bl_if_ne, bl_c47, bl_if_eq, bk_179_22, tn_22, bf_116_4, bf_116_8, ba_zCA, ba_zTR, ba_zSP, ba_zLP, ba_18, ba_19, ba_20, ba_21, ba_83, ba_87, ba_117, ba_118, ba_119, ba_120, ba_123, ba_124, ba_125, ba_126, ba_127, ba_128, ba_129, ba_130, ba_131, ba_132, bl_ic_ne, bl_cm27, bl_goto, bk_179_41, tn_41, bl_cm28, bk_179_43, tn_43, bl_is1, bl_c1, bl_il1, bk_179_61, tn_61, bl_rv, Option.bind_some, Option.bind_none, Option.toList_some, Option.toList_none, List.cons_append, List.nil_append, not_false_eq_true, not_true_eq_false, nI_10, nI_00, bI_0, bI_n0, if_true, if_false, true_and, and_true, and_false, false_and, Classical.not_not, ↓reduceIte, eq_self, Nat.reduceAdd, Nat.reduceMul, bl_nil, z_lt, z_le, z_gt, z_ge, nI_add, nI_mul, nI_sub, L_lt, L_le, L_eq, L_e0, N_ltT, N_ltF, N_leT, N_leF, N_eqT, N_eqF, gs_hit, gs_miss, eA, eB, t1, g1, e1, e2, e3]
          rw [bk_179_4]
          simp -implicitDefEqProofs (disch := first | (with_reducible first | exact rt_179 | exact na_177 | exact k_116.trans mc_177.symm | exact na_174 | exact k_116.trans mc_174.symm | exact na_173 | exact k_116.trans mc_173.symm | exact na_175 | exact k_116.trans mc_175.symm | exact c1_i | exact c1_r | exact of_eq_false nf_zGC | exact of_eq_false nf_zBA | exact of_eq_false nf_zDA | exact of_eq_false nf_zCA | exact of_eq_false nf_zBC | exact of_eq_false nf_zDC | exact of_eq_false nf_zSC | exact of_eq_false nf_zSP | exact of_eq_false nf_zLC | exact of_eq_false nf_zLB | exact of_eq_false nf_zLS | exact of_eq_false nf_zLP | exact of_eq_false nf_zTR) | omega | exact Nat.le_of_ble_eq_true rfl | ((with_reducible refine nI_ne0 ?_ ?_) <;> omega)) only [bk_179_0, tn_0, bl_al0, bl_iv1, tn_4, bl_c42, bl_iv2, bl_if_ne, bl_c47, bl_if_eq, bk_179_22, tn_22, bf_116_4, bf_116_8, ba_zCA, ba_zTR, ba_zSP, ba_zLP, ba_18, ba_19, ba_20, ba_21, ba_83, ba_87, ba_117, ba_118, ba_119, ba_120, ba_123, ba_124, ba_125, ba_126, ba_127, ba_128, ba_129, ba_130, ba_131, ba_132, bl_ic_ne, bl_cm27, bl_goto, bk_179_41, tn_41, bl_cm28, bk_179_43, tn_43, bl_is1, bl_c1, bl_il1, bk_179_61, tn_61, bl_rv, Option.bind_some, Option.bind_none, Option.toList_some, Option.toList_none, List.cons_append, List.nil_append, not_false_eq_true, not_true_eq_false, nI_10, nI_00, bI_0, bI_n0, if_true, if_false, true_and, and_true, and_false, false_and, Classical.not_not, ↓reduceIte, eq_self, Nat.reduceAdd, Nat.reduceMul, bl_nil, z_lt, z_le, z_gt, z_ge, nI_add, nI_mul, nI_sub, L_lt, L_le, L_eq, L_e0, N_ltT, N_ltF, N_leT, N_leF, N_eqT, N_eqF, gs_hit, gs_miss, e4]
    · rw [if_neg hg]
      have hA : ¬ sgS B s = 42 := fun y => hg (by rw [y]; rfl)
      have hB : ¬ sgS B s = 47 := fun y => hg (by rw [y]; rfl)
      rw [if_neg hA] at eA
      rw [if_neg hB] at eB
      refine ⟨u, ?_, fR_refl, fun _ => h, fun y => absurd rfl y⟩
      rw [bk_179_4]
      simp -implicitDefEqProofs (disch := first | (with_reducible first | exact rt_179 | exact na_177 | exact k_116.trans mc_177.symm | exact na_174 | exact k_116.trans mc_174.symm | exact na_173 | exact k_116.trans mc_173.symm | exact na_175 | exact k_116.trans mc_175.symm | exact c1_i | exact c1_r | exact of_eq_false nf_zGC | exact of_eq_false nf_zBA | exact of_eq_false nf_zDA | exact of_eq_false nf_zCA | exact of_eq_false nf_zBC | exact of_eq_false nf_zDC | exact of_eq_false nf_zSC | exact of_eq_false nf_zSP | exact of_eq_false nf_zLC | exact of_eq_false nf_zLB | exact of_eq_false nf_zLS | exact of_eq_false nf_zLP | exact of_eq_false nf_zTR) | omega | exact Nat.le_of_ble_eq_true rfl | ((with_reducible refine nI_ne0 ?_ ?_) <;> omega)) only [bk_179_0, tn_0, bl_al0, bl_iv1, tn_4, bl_c42, bl_iv2, bl_if_ne, bl_c47, bl_if_eq, bk_179_22, tn_22, bf_116_4, bf_116_8, ba_zCA, ba_zTR, ba_zSP, ba_zLP, ba_18, ba_19, ba_20, ba_21, ba_83, ba_87, ba_117, ba_118, ba_119, ba_120, ba_123, ba_124, ba_125, ba_126, ba_127, ba_128, ba_129, ba_130, ba_131, ba_132, bl_ic_ne, bl_cm27, bl_goto, bk_179_41, tn_41, bl_cm28, bk_179_43, tn_43, bl_is1, bl_c1, bl_il1, bk_179_61, tn_61, bl_rv, Option.bind_some, Option.bind_none, Option.toList_some, Option.toList_none, List.cons_append, List.nil_append, not_false_eq_true, not_true_eq_false, nI_10, nI_00, bI_0, bI_n0, if_true, if_false, true_and, and_true, and_false, false_and, Classical.not_not, ↓reduceIte, eq_self, Nat.reduceAdd, Nat.reduceMul, bl_nil, z_lt, z_le, z_gt, z_ge, nI_add, nI_mul, nI_sub, L_lt, L_le, L_eq, L_e0, N_ltT, N_ltF, N_leT, N_leF, N_eqT, N_eqF, gs_hit, gs_miss, eA, eB]
theorem m_tmS (hk : ky < 3) (hc : c ≤ 96) (hb : ∀ k, B k < 256) (hS : mR X B c ky f 5 177) : mR X B c ky (f + 1) 4 179 := by
  intro p q s u D hp hq hf hD ok h hl h7 h8
  obtain ⟨D, rfl⟩ : ∃ D', D = D' + 20 := ⟨D - 20, by omega⟩
  obtain ⟨u1, e1, F1, S1, W1⟩ := hS p q s u (D + 19) hp hq (by omega) (by omega) ok h hl h7 h8
  obtain ⟨q1, q2, q3⟩ := pG_ok hk f 5 p q s ok
  have h81 : u1 54 8 = nI q := by rw [F1.2 8 (by omega) (by omega) (by omega) (by omega) (by omega) (by omega)]; exact h8
  have h71 : u1 54 7 = nI p := by rw [F1.2 7 (by omega) (by omega) (by omega) (by omega) (by omega) (by omega)]; exact h7
  rw [pG, if_neg (show ¬ 5 ≤ 4 by omega), cl_179]
  by_cases hr : (pG B c ky f (4 + 1) p q s).1 = true
  · rw [if_pos hr, if_neg (show ¬ 4 = 2 by omega)]
    obtain ⟨r0, l2, r1, r2, r3, r4⟩ := q3 hr
    obtain ⟨u', e, F, S, W⟩ := m_tmL (X := X) (p := p) (q := q) (D := D) hk hc hb hS hp hq hf hD 96 _ u1 (.retAddr 0) (by omega) r0 (S1 hr) (by rw [r1, List.length_append]; omega) h71 h81
    refine ⟨u', ?_, fR_trans F1 F, S, W⟩
    rw [← e]
    simp -implicitDefEqProofs (disch := first | (with_reducible first | exact rt_179 | exact na_177 | exact k_116.trans mc_177.symm | exact na_174 | exact k_116.trans mc_174.symm | exact na_173 | exact k_116.trans mc_173.symm | exact na_175 | exact k_116.trans mc_175.symm | exact c1_i | exact c1_r | exact of_eq_false nf_zGC | exact of_eq_false nf_zBA | exact of_eq_false nf_zDA | exact of_eq_false nf_zCA | exact of_eq_false nf_zBC | exact of_eq_false nf_zDC | exact of_eq_false nf_zSC | exact of_eq_false nf_zSP | exact of_eq_false nf_zLC | exact of_eq_false nf_zLB | exact of_eq_false nf_zLS | exact of_eq_false nf_zLP | exact of_eq_false nf_zTR) | omega | exact Nat.le_of_ble_eq_true rfl | ((with_reducible refine nI_ne0 ?_ ?_) <;> omega)) only [bk_179_0, tn_0, bl_al0, bl_iv1, tn_4, bl_c42, bl_iv2, bl_if_ne, bl_c47, bl_if_eq, bk_179_22, tn_22, bf_116_4, bf_116_8, ba_zCA, ba_zTR, ba_zSP, ba_zLP, ba_18, ba_19, ba_20, ba_21, ba_83, ba_87, ba_117, ba_118, ba_119, ba_120, ba_123, ba_124, ba_125, ba_126, ba_127, ba_128, ba_129, ba_130, ba_131, ba_132, bl_ic_ne, bl_cm27, bl_goto, bk_179_41, tn_41, bl_cm28, bk_179_43, tn_43, bl_is1, bl_c1, bl_il1, bk_179_61, tn_61, bl_rv, Option.bind_some, Option.bind_none, Option.toList_some, Option.toList_none, List.cons_append, List.nil_append, not_false_eq_true, not_true_eq_false, nI_10, nI_00, bI_0, bI_n0, if_true, if_false, true_and, and_true, and_false, false_and, Classical.not_not, ↓reduceIte, eq_self, Nat.reduceAdd, Nat.reduceMul, bl_nil, z_lt, z_le, z_gt, z_ge, nI_add, nI_mul, nI_sub, L_lt, L_le, L_eq, L_e0, N_ltT, N_ltF, N_leT, N_leF, N_eqT, N_eqF, gs_hit, gs_miss, e1]
  · rw [if_neg hr]
    have W3 := W1 hr
    have e4 := fun y => m_isSgW (X := X) (d := D + 19) (x := y) W3.2
    refine ⟨u1, ?_, F1, fun y => (by cases y), fun _ => W3⟩
    simp -implicitDefEqProofs (disch := first | (with_reducible first | exact rt_179 | exact na_177 | exact k_116.trans mc_177.symm | exact na_174 | exact k_116.trans mc_174.symm | exact na_173 | exact k_116.trans mc_173.symm | exact na_175 | exact k_116.trans mc_175.symm | exact c1_i | exact c1_r | exact of_eq_false nf_zGC | exact of_eq_false nf_zBA | exact of_eq_false nf_zDA | exact of_eq_false nf_zCA | exact of_eq_false nf_zBC | exact of_eq_false nf_zDC | exact of_eq_false nf_zSC | exact of_eq_false nf_zSP | exact of_eq_false nf_zLC | exact of_eq_false nf_zLB | exact of_eq_false nf_zLS | exact of_eq_false nf_zLP | exact of_eq_false nf_zTR) | omega | exact Nat.le_of_ble_eq_true rfl | ((with_reducible refine nI_ne0 ?_ ?_) <;> omega)) only [bk_179_0, tn_0, bl_al0, bl_iv1, tn_4, bl_c42, bl_iv2, bl_if_ne, bl_c47, bl_if_eq, bk_179_22, tn_22, bf_116_4, bf_116_8, ba_zCA, ba_zTR, ba_zSP, ba_zLP, ba_18, ba_19, ba_20, ba_21, ba_83, ba_87, ba_117, ba_118, ba_119, ba_120, ba_123, ba_124, ba_125, ba_126, ba_127, ba_128, ba_129, ba_130, ba_131, ba_132, bl_ic_ne, bl_cm27, bl_goto, bk_179_41, tn_41, bl_cm28, bk_179_43, tn_43, bl_is1, bl_c1, bl_il1, bk_179_61, tn_61, bl_rv, Option.bind_some, Option.bind_none, Option.toList_some, Option.toList_none, List.cons_append, List.nil_append, not_false_eq_true, not_true_eq_false, nI_10, nI_00, bI_0, bI_n0, if_true, if_false, true_and, and_true, and_false, false_and, Classical.not_not, ↓reduceIte, eq_self, Nat.reduceAdd, Nat.reduceMul, bl_nil, z_lt, z_le, z_gt, z_ge, nI_add, nI_mul, nI_sub, L_lt, L_le, L_eq, L_e0, N_ltT, N_ltF, N_leT, N_leF, N_eqT, N_eqF, gs_hit, gs_miss, e1]
    rw [bk_179_4]
    simp -implicitDefEqProofs (disch := first | (with_reducible first | exact rt_179 | exact na_177 | exact k_116.trans mc_177.symm | exact na_174 | exact k_116.trans mc_174.symm | exact na_173 | exact k_116.trans mc_173.symm | exact na_175 | exact k_116.trans mc_175.symm | exact c1_i | exact c1_r | exact of_eq_false nf_zGC | exact of_eq_false nf_zBA | exact of_eq_false nf_zDA | exact of_eq_false nf_zCA | exact of_eq_false nf_zBC | exact of_eq_false nf_zDC | exact of_eq_false nf_zSC | exact of_eq_false nf_zSP | exact of_eq_false nf_zLC | exact of_eq_false nf_zLB | exact of_eq_false nf_zLS | exact of_eq_false nf_zLP | exact of_eq_false nf_zTR) | omega | exact Nat.le_of_ble_eq_true rfl | ((with_reducible refine nI_ne0 ?_ ?_) <;> omega)) only [bk_179_0, tn_0, bl_al0, bl_iv1, tn_4, bl_c42, bl_iv2, bl_if_ne, bl_c47, bl_if_eq, bk_179_22, tn_22, bf_116_4, bf_116_8, ba_zCA, ba_zTR, ba_zSP, ba_zLP, ba_18, ba_19, ba_20, ba_21, ba_83, ba_87, ba_117, ba_118, ba_119, ba_120, ba_123, ba_124, ba_125, ba_126, ba_127, ba_128, ba_129, ba_130, ba_131, ba_132, bl_ic_ne, bl_cm27, bl_goto, bk_179_41, tn_41, bl_cm28, bk_179_43, tn_43, bl_is1, bl_c1, bl_il1, bk_179_61, tn_61, bl_rv, Option.bind_some, Option.bind_none, Option.toList_some, Option.toList_none, List.cons_append, List.nil_append, not_false_eq_true, not_true_eq_false, nI_10, nI_00, bI_0, bI_n0, if_true, if_false, true_and, and_true, and_false, false_and, Classical.not_not, ↓reduceIte, eq_self, Nat.reduceAdd, Nat.reduceMul, bl_nil, z_lt, z_le, z_gt, z_ge, nI_add, nI_mul, nI_sub, L_lt, L_le, L_eq, L_e0, N_ltT, N_ltF, N_leT, N_leF, N_eqT, N_eqF, gs_hit, gs_miss, e4]
theorem m_smL {p q D : Nat} (hk : ky < 3) (hc : c ≤ 96) (hb : ∀ k, B k < 256) (hS : mR X B c ky f 4 179) (hp : p ≤ 8) (hq : q ≤ 8) (hf : 7 * ((8 - p) + (8 - q)) + (5 - 3) + 1 ≤ f + 1) (hD : 7 * (8 - p) + (8 - q) + (5 - 3) + 20 ≤ D + 20) : ∀ (k : Nat) (s : pS) (u : gt_M) (v1 : Value), 96 ≤ k + s.2.1 → okT B c s → rM B c ky u s → s.2.2.2.1.length ≤ s.2.1 → u 54 7 = nI p → u 54 8 = nI q → ∃ u', gm_ev X (D + 20) 180 4 [.ref 116, v1] [] (gt_h u) = some (none, gt_h u') ∧ fR u u' ∧ ((pLp B c (pG B c ky f 4 p q) 3 k s).1 = true → rM B c ky u' (pLp B c (pG B c ky f 4 p q) 3 k s).2) ∧ (¬ (pLp B c (pG B c ky f 4 p q) 3 k s).1 = true → wM B c ky u' (pLp B c (pG B c ky f 4 p q) 3 k s).2) := by
  intro k
  induction k with
  | zero =>
    intro s u v1 hk9 ok h hl h7 h8
    have n3 : ¬ s.1 = 3 := fun y => by
      have a1 := ok.2.2.2.1 y
      have a2 := ok.2.2.1
      omega
    have s0 : sgS B s = 0 := if_neg n3
    have eA := m_isSg (X := X) (d := D + 19) (g := 43) (by omega) (by omega) hc hb ok h
    have eB := m_isSg (X := X) (d := D + 19) (g := 45) (by omega) (by omega) hc hb ok h
    rw [if_neg (by omega)] at eA eB
    refine ⟨u, ?_, fR_refl, fun _ => h, fun y => absurd rfl y⟩
    rw [bk_180_4]
    simp -implicitDefEqProofs (disch := first | (with_reducible first | exact rt_180 | exact na_179 | exact k_116.trans mc_179.symm | exact na_174 | exact k_116.trans mc_174.symm | exact na_173 | exact k_116.trans mc_173.symm | exact na_175 | exact k_116.trans mc_175.symm | exact c1_i | exact c1_r | exact of_eq_false nf_zGC | exact of_eq_false nf_zBA | exact of_eq_false nf_zDA | exact of_eq_false nf_zCA | exact of_eq_false nf_zBC | exact of_eq_false nf_zDC | exact of_eq_false nf_zSC | exact of_eq_false nf_zSP | exact of_eq_false nf_zLC | exact of_eq_false nf_zLB | exact of_eq_false nf_zLS | exact of_eq_false nf_zLP | exact of_eq_false nf_zTR) | omega | exact Nat.le_of_ble_eq_true rfl | ((with_reducible refine nI_ne0 ?_ ?_) <;> omega)) only [bk_180_0, tn_0, bl_al0, bl_iv1, tn_4, bl_c43, bl_iv2, bl_if_ne, bl_c45, bl_if_eq, bk_180_22, tn_22, bf_116_4, bf_116_8, ba_zCA, ba_zTR, ba_zSP, ba_zLP, ba_18, ba_19, ba_20, ba_21, ba_83, ba_87, ba_117, ba_118, ba_119, ba_120, ba_123, ba_124, ba_125, ba_126, ba_127, ba_128, ba_129, ba_130, ba_131, ba_132, bl_ic_ne, bl_cm25, bl_goto, bk_180_41, tn_41, bl_cm26, bk_180_43, tn_43, bl_is1, bl_c1, bl_il1, bk_180_61, tn_61, bl_rv, Option.bind_some, Option.bind_none, Option.toList_some, Option.toList_none, List.cons_append, List.nil_append, not_false_eq_true, not_true_eq_false, nI_10, nI_00, bI_0, bI_n0, if_true, if_false, true_and, and_true, and_false, false_and, Classical.not_not, ↓reduceIte, eq_self, Nat.reduceAdd, Nat.reduceMul, bl_nil, z_lt, z_le, z_gt, z_ge, nI_add, nI_mul, nI_sub, L_lt, L_le, L_eq, L_e0, N_ltT, N_ltF, N_leT, N_leF, N_eqT, N_eqF, gs_hit, gs_miss, eA, eB]
  | succ k ih =>
    intro s u v1 hk9 ok h hl h7 h8
    have eA := m_isSg (X := X) (d := D + 19) (g := 43) (by omega) (by omega) hc hb ok h
    have eB := m_isSg (X := X) (d := D + 19) (g := 45) (by omega) (by omega) hc hb ok h
    rw [pLp]
    by_cases hg : lvO (sgS B s) = 3
    · rw [if_pos hg]
      obtain ⟨z1, z2, z3⟩ := lv_op (ky := ky) hg (by omega)
      have h3 := sg_3 (B := B) (s := s) z3
      have hBs : sgS B s = B s.2.1 := if_pos h3
      have ho : sgS B s = 43 ∨ sgS B s = 45 := (lvO_inv (g := sgS B s)).2.2.2.1 hg
      obtain ⟨n1, n2⟩ := okT_nx (B := B) (c := c) (s := s) ok.2.2.1
      have n3 := ok.2.2.2.1 h3
      have n4 := ok.2.2.1
      have hcode : (nxS B c s).2.2.2.1 = s.2.2.2.1 := rfl
      have t1 := h.1.2.1
      have t2 := h.1.2.2.2.2.2 s.2.1 (by omega)
      obtain ⟨u1, e1, R1, F1⟩ := m_must1 (X := X) (d := D + 16) hc hb ok h
      have h81 : u1 54 8 = nI q := by rw [F1.2 8 (by omega) (by omega) (by omega) (by omega) (by omega) (by omega)]; exact h8
      have h71 : u1 54 7 = nI p := by rw [F1.2 7 (by omega) (by omega) (by omega) (by omega) (by omega) (by omega)]; exact h7
      obtain ⟨u2, e2, F2, S2, W2⟩ := hS p q (nxS B c s) u1 (D + 19) hp hq (by omega) (by omega) n1 R1 (by rw [hcode]; omega) h71 h81
      obtain ⟨q1, q2, q3⟩ := pG_ok hk f 4 p q (nxS B c s) n1
      have h82 : u2 54 8 = nI q := by rw [F2.2 8 (by omega) (by omega) (by omega) (by omega) (by omega) (by omega)]; exact h81
      have h72 : u2 54 7 = nI p := by rw [F2.2 7 (by omega) (by omega) (by omega) (by omega) (by omega) (by omega)]; exact h71
      generalize hr0 : pG B c ky f 4 p q (nxS B c s) = r at *
      by_cases hr : r.1 = true
      · rw [if_pos hr]
        obtain ⟨r0, l2, r1, r2, r3, r4⟩ := q3 hr
        have hl2 : r.2.2.2.2.1.length + 1 ≤ r.2.2.1 := by
          rw [r1, List.length_append, hcode]
          omega
        obtain ⟨u3, e3, R3, F3⟩ := rM_em (X := X) (d := D + 19) (x := 20000 + sgS B s) (S2 hr) (ok_len r0 hc hl2)
        obtain ⟨u', e, F, S, W⟩ := ih (emS (20000 + sgS B s) r.2) u3 (.int (rfI (20000 + sgS B s))) (by show 96 ≤ k + r.2.2.1; omega) r0 R3 (by
          show (r.2.2.2.2.1 ++ [20000 + sgS B s]).length ≤ r.2.2.1
          rw [List.length_append, List.length_singleton]
          exact hl2) (by rw [F3.2 7 (by omega) (by omega) (by omega) (by omega) (by omega) (by omega)]; exact h72) (by rw [F3.2 8 (by omega) (by omega) (by omega) (by omega) (by omega) (by omega)]; exact h82)
        refine ⟨u', ?_, fR_trans F1 (fR_trans F2 (fR_trans F3 F)), S, W⟩
        rw [← e, bk_180_4]
        rcases ho with ho | ho
        · rw [if_pos ho] at eA
          have g1 : u 43 s.2.1 = nI 43 := by rw [t2, ← hBs, ho]
          have er : rfI (20000 + sgS B s) = -25 := by rw [ho]; rfl
          rw [er] at e3
          rw [er]
          simp -implicitDefEqProofs (disch := first | (with_reducible first | exact rt_180 | exact na_179 | exact k_116.trans mc_179.symm | exact na_174 | exact k_116.trans mc_174.symm | exact na_173 | exact k_116.trans mc_173.symm | exact na_175 | exact k_116.trans mc_175.symm | exact c1_i | exact c1_r | exact of_eq_false nf_zGC | exact of_eq_false nf_zBA | exact of_eq_false nf_zDA | exact of_eq_false nf_zCA | exact of_eq_false nf_zBC | exact of_eq_false nf_zDC | exact of_eq_false nf_zSC | exact of_eq_false nf_zSP | exact of_eq_false nf_zLC | exact of_eq_false nf_zLB | exact of_eq_false nf_zLS | exact of_eq_false nf_zLP | exact of_eq_false nf_zTR) | omega | exact Nat.le_of_ble_eq_true rfl | ((with_reducible refine nI_ne0 ?_ ?_) <;> omega)) only [bk_180_0, tn_0, bl_al0, bl_iv1, tn_4, bl_c43, bl_iv2, bl_if_ne, bl_c45, bl_if_eq, bk_180_22, tn_22, bf_116_4, bf_116_8, ba_zCA, ba_zTR, ba_zSP, ba_zLP, ba_18, ba_19, ba_20, ba_21, ba_83, ba_87, ba_117, ba_118, ba_119, ba_120, ba_123, ba_124, ba_125, ba_126, ba_127, ba_128, ba_129, ba_130, ba_131, ba_132, bl_ic_ne, bl_cm25, bl_goto, bk_180_41, tn_41, bl_cm26, bk_180_43, tn_43, bl_is1, bl_c1, bl_il1, bk_180_61, tn_61, bl_rv, Option.bind_some, Option.bind_none, Option.toList_some, Option.toList_none, List.cons_append, List.nil_append, not_false_eq_true, not_true_eq_false, nI_10, nI_00, bI_0, bI_n0, if_true, if_false, true_and, and_true, and_false, false_and, Classical.not_not, ↓reduceIte, eq_self, Nat.reduceAdd, Nat.reduceMul, bl_nil, z_lt, z_le, z_gt, z_ge, nI_add, nI_mul, nI_sub, L_lt, L_le, L_eq, L_e0, N_ltT, N_ltF, N_leT, N_leF, N_eqT, N_eqF, gs_hit, gs_miss, eA, eB, t1, g1, e1, e2, e3]
        · rw [if_neg (by omega)] at eA
          rw [if_pos ho] at eB
          have g1 : u 43 s.2.1 = nI 45 := by rw [t2, ← hBs, ho]
          have er : rfI (20000 + sgS B s) = -26 := by rw [ho]; rfl
          rw [er] at e3
          rw [er]
          simp -implicitDefEqProofs (disch := first | (with_reducible first | exact rt_180 | exact na_179 | exact k_116.trans mc_179.symm | exact na_174 | exact k_116.trans mc_174.symm | exact na_173 | exact k_116.trans mc_173.symm | exact na_175 | exact k_116.trans mc_175.symm | exact c1_i | exact c1_r | exact of_eq_false nf_zGC | exact of_eq_false nf_zBA | exact of_eq_false nf_zDA | exact of_eq_false nf_zCA | exact of_eq_false nf_zBC | exact of_eq_false nf_zDC | exact of_eq_false nf_zSC | exact of_eq_false nf_zSP | exact of_eq_false nf_zLC | exact of_eq_false nf_zLB | exact of_eq_false nf_zLS | exact of_eq_false nf_zLP | exact of_eq_false nf_zTR) | omega | exact Nat.le_of_ble_eq_true rfl | ((with_reducible refine nI_ne0 ?_ ?_) <;> omega)) only [bk_180_0, tn_0, bl_al0, bl_iv1, tn_4, bl_c43, bl_iv2, bl_if_ne, bl_c45, bl_if_eq, bk_180_22, tn_22, bf_116_4, bf_116_8, ba_zCA, ba_zTR, ba_zSP, ba_zLP, ba_18, ba_19, ba_20, ba_21, ba_83, ba_87, ba_117, ba_118, ba_119, ba_120, ba_123, ba_124, ba_125, ba_126, ba_127, ba_128, ba_129, ba_130, ba_131, ba_132, bl_ic_ne, bl_cm25, bl_goto, bk_180_41, tn_41, bl_cm26, bk_180_43, tn_43, bl_is1, bl_c1, bl_il1, bk_180_61, tn_61, bl_rv, Option.bind_some, Option.bind_none, Option.toList_some, Option.toList_none, List.cons_append, List.nil_append, not_false_eq_true, not_true_eq_false, nI_10, nI_00, bI_0, bI_n0, if_true, if_false, true_and, and_true, and_false, false_and, Classical.not_not, ↓reduceIte, eq_self, Nat.reduceAdd, Nat.reduceMul, bl_nil, z_lt, z_le, z_gt, z_ge, nI_add, nI_mul, nI_sub, L_lt, L_le, L_eq, L_e0, N_ltT, N_ltF, N_leT, N_leF, N_eqT, N_eqF, gs_hit, gs_miss, eA, eB, t1, g1, e1, e2, e3]
      · rw [if_neg hr]
        have W3 := W2 hr
        have e3 := fun y => m_stepW (X := X) (d := D + 19) (x := y) W3.2
        have e4 := fun y => m_isSgW (X := X) (d := D + 19) (x := y) W3.2
        refine ⟨u2, ?_, fR_trans F1 F2, fun y => (by cases y), fun _ => W3⟩
        rw [bk_180_4]
        rcases ho with ho | ho
        · rw [if_pos ho] at eA
          have g1 : u 43 s.2.1 = nI 43 := by rw [t2, ← hBs, ho]
          simp -implicitDefEqProofs (disch := first | (with_reducible first | exact rt_180 | exact na_179 | exact k_116.trans mc_179.symm | exact na_174 | exact k_116.trans mc_174.symm | exact na_173 | exact k_116.trans mc_173.symm | exact na_175 | exact k_116.trans mc_175.symm | exact c1_i | exact c1_r | exact of_eq_false nf_zGC | exact of_eq_false nf_zBA | exact of_eq_false nf_zDA | exact of_eq_false nf_zCA | exact of_eq_false nf_zBC | exact of_eq_false nf_zDC | exact of_eq_false nf_zSC | exact of_eq_false nf_zSP | exact of_eq_false nf_zLC | exact of_eq_false nf_zLB | exact of_eq_false nf_zLS | exact of_eq_false nf_zLP | exact of_eq_false nf_zTR) | omega | exact Nat.le_of_ble_eq_true rfl | ((with_reducible refine nI_ne0 ?_ ?_) <;> omega)) only [bk_180_0, tn_0, bl_al0, bl_iv1, tn_4, bl_c43, bl_iv2, bl_if_ne, bl_c45, bl_if_eq, bk_180_22, tn_22, bf_116_4, bf_116_8, ba_zCA, ba_zTR, ba_zSP, ba_zLP, ba_18, ba_19, ba_20, ba_21, ba_83, ba_87, ba_117, ba_118, ba_119, ba_120, ba_123, ba_124, ba_125, ba_126, ba_127, ba_128, ba_129, ba_130, ba_131, ba_132, bl_ic_ne, bl_cm25, bl_goto, bk_180_41, tn_41, bl_cm26, bk_180_43, tn_43, bl_is1, bl_c1, bl_il1, bk_180_61, tn_61, bl_rv, Option.bind_some, Option.bind_none, Option.toList_some, Option.toList_none, List.cons_append, List.nil_append, not_false_eq_true, not_true_eq_false, nI_10, nI_00, bI_0, bI_n0, if_true, if_false, true_and, and_true, and_false, false_and, Classical.not_not, ↓reduceIte, eq_self, Nat.reduceAdd, Nat.reduceMul, bl_nil, z_lt, z_le, z_gt, z_ge, nI_add, nI_mul, nI_sub, L_lt, L_le, L_eq, L_e0, N_ltT, N_ltF, N_leT, N_leF, N_eqT, N_eqF, gs_hit, gs_miss, eA, eB, t1, g1, e1, e2, e3]
          rw [bk_180_4]
          simp -implicitDefEqProofs (disch := first | (with_reducible first | exact rt_180 | exact na_179 | exact k_116.trans mc_179.symm | exact na_174 | exact k_116.trans mc_174.symm | exact na_173 | exact k_116.trans mc_173.symm | exact na_175 | exact k_116.trans mc_175.symm | exact c1_i | exact c1_r | exact of_eq_false nf_zGC | exact of_eq_false nf_zBA | exact of_eq_false nf_zDA | exact of_eq_false nf_zCA | exact of_eq_false nf_zBC | exact of_eq_false nf_zDC | exact of_eq_false nf_zSC | exact of_eq_false nf_zSP | exact of_eq_false nf_zLC | exact of_eq_false nf_zLB | exact of_eq_false nf_zLS | exact of_eq_false nf_zLP | exact of_eq_false nf_zTR) | omega | exact Nat.le_of_ble_eq_true rfl | ((with_reducible refine nI_ne0 ?_ ?_) <;> omega)) only [bk_180_0, tn_0, bl_al0, bl_iv1, tn_4, bl_c43, bl_iv2, bl_if_ne, bl_c45, bl_if_eq, bk_180_22, tn_22, bf_116_4, bf_116_8, ba_zCA, ba_zTR, ba_zSP, ba_zLP, ba_18, ba_19, ba_20, ba_21, ba_83, ba_87, ba_117, ba_118, ba_119, ba_120, ba_123, ba_124, ba_125, ba_126, ba_127, ba_128, ba_129, ba_130, ba_131, ba_132, bl_ic_ne, bl_cm25, bl_goto, bk_180_41, tn_41, bl_cm26, bk_180_43, tn_43, bl_is1, bl_c1, bl_il1, bk_180_61, tn_61, bl_rv, Option.bind_some, Option.bind_none, Option.toList_some, Option.toList_none, List.cons_append, List.nil_append, not_false_eq_true, not_true_eq_false, nI_10, nI_00, bI_0, bI_n0, if_true, if_false, true_and, and_true, and_false, false_and, Classical.not_not, ↓reduceIte, eq_self, Nat.reduceAdd, Nat.reduceMul, bl_nil, z_lt, z_le, z_gt, z_ge, nI_add, nI_mul, nI_sub, L_lt, L_le, L_eq, L_e0, N_ltT, N_ltF, N_leT, N_leF, N_eqT, N_eqF, gs_hit, gs_miss, e4]
        · rw [if_neg (by omega)] at eA
          rw [if_pos ho] at eB
          have g1 : u 43 s.2.1 = nI 45 := by rw [t2, ← hBs, ho]
          simp -implicitDefEqProofs (disch := first | (with_reducible first | exact rt_180 | exact na_179 | exact k_116.trans mc_179.symm | exact na_174 | exact k_116.trans mc_174.symm | exact na_173 | exact k_116.trans mc_173.symm | exact na_175 | exact k_116.trans mc_175.symm | exact c1_i | exact c1_r | exact of_eq_false nf_zGC | exact of_eq_false nf_zBA | exact of_eq_false nf_zDA | exact of_eq_false nf_zCA | exact of_eq_false nf_zBC | exact of_eq_false nf_zDC | exact of_eq_false nf_zSC | exact of_eq_false nf_zSP | exact of_eq_false nf_zLC | exact of_eq_false nf_zLB | exact of_eq_false nf_zLS | exact of_eq_false nf_zLP | exact of_eq_false nf_zTR) | omega | exact Nat.le_of_ble_eq_true rfl | ((with_reducible refine nI_ne0 ?_ ?_) <;> omega)) only [bk_180_0, tn_0, bl_al0, bl_iv1, tn_4, bl_c43, bl_iv2, bl_if_ne, bl_c45, bl_if_eq, bk_180_22, tn_22, bf_116_4, bf_116_8, ba_zCA, ba_zTR, ba_zSP, ba_zLP, ba_18, ba_19, ba_20, ba_21, ba_83, ba_87, ba_117, ba_118, ba_119, ba_120, ba_123, ba_124, ba_125, ba_126, ba_127, ba_128, ba_129, ba_130, ba_131, ba_132, bl_ic_ne, bl_cm25, bl_goto, bk_180_41, tn_41, bl_cm26, bk_180_43, tn_43, bl_is1, bl_c1, bl_il1, bk_180_61, tn_61, bl_rv, Option.bind_some, Option.bind_none, Option.toList_some, Option.toList_none, List.cons_append, List.nil_append, not_false_eq_true, not_true_eq_false, nI_10, nI_00, bI_0, bI_n0, if_true, if_false, true_and, and_true, and_false, false_and, Classical.not_not, ↓reduceIte, eq_self, Nat.reduceAdd, Nat.reduceMul, bl_nil, z_lt, z_le, z_gt, z_ge, nI_add, nI_mul, nI_sub, L_lt, L_le, L_eq, L_e0, N_ltT, N_ltF, N_leT, N_leF, N_eqT, N_eqF, gs_hit, gs_miss, eA, eB, t1, g1, e1, e2, e3]
          rw [bk_180_4]
          simp -implicitDefEqProofs (disch := first | (with_reducible first | exact rt_180 | exact na_179 | exact k_116.trans mc_179.symm | exact na_174 | exact k_116.trans mc_174.symm | exact na_173 | exact k_116.trans mc_173.symm | exact na_175 | exact k_116.trans mc_175.symm | exact c1_i | exact c1_r | exact of_eq_false nf_zGC | exact of_eq_false nf_zBA | exact of_eq_false nf_zDA | exact of_eq_false nf_zCA | exact of_eq_false nf_zBC | exact of_eq_false nf_zDC | exact of_eq_false nf_zSC | exact of_eq_false nf_zSP | exact of_eq_false nf_zLC | exact of_eq_false nf_zLB | exact of_eq_false nf_zLS | exact of_eq_false nf_zLP | exact of_eq_false nf_zTR) | omega | exact Nat.le_of_ble_eq_true rfl | ((with_reducible refine nI_ne0 ?_ ?_) <;> omega)) only [bk_180_0, tn_0, bl_al0, bl_iv1, tn_4, bl_c43, bl_iv2, bl_if_ne, bl_c45, bl_if_eq, bk_180_22, tn_22, bf_116_4, bf_116_8, ba_zCA, ba_zTR, ba_zSP, ba_zLP, ba_18, ba_19, ba_20, ba_21, ba_83, ba_87, ba_117, ba_118, ba_119, ba_120, ba_123, ba_124, ba_125, ba_126, ba_127, ba_128, ba_129, ba_130, ba_131, ba_132, bl_ic_ne, bl_cm25, bl_goto, bk_180_41, tn_41, bl_cm26, bk_180_43, tn_43, bl_is1, bl_c1, bl_il1, bk_180_61, tn_61, bl_rv, Option.bind_some, Option.bind_none, Option.toList_some, Option.toList_none, List.cons_append, List.nil_append, not_false_eq_true, not_true_eq_false, nI_10, nI_00, bI_0, bI_n0, if_true, if_false, true_and, and_true, and_false, false_and, Classical.not_not, ↓reduceIte, eq_self, Nat.reduceAdd, Nat.reduceMul, bl_nil, z_lt, z_le, z_gt, z_ge, nI_add, nI_mul, nI_sub, L_lt, L_le, L_eq, L_e0, N_ltT, N_ltF, N_leT, N_leF, N_eqT, N_eqF, gs_hit, gs_miss, e4]
    · rw [if_neg hg]
      have hA : ¬ sgS B s = 43 := fun y => hg (by rw [y]; rfl)
      have hB : ¬ sgS B s = 45 := fun y => hg (by rw [y]; rfl)
      rw [if_neg hA] at eA
      rw [if_neg hB] at eB
      refine ⟨u, ?_, fR_refl, fun _ => h, fun y => absurd rfl y⟩
      rw [bk_180_4]
      simp -implicitDefEqProofs (disch := first | (with_reducible first | exact rt_180 | exact na_179 | exact k_116.trans mc_179.symm | exact na_174 | exact k_116.trans mc_174.symm | exact na_173 | exact k_116.trans mc_173.symm | exact na_175 | exact k_116.trans mc_175.symm | exact c1_i | exact c1_r | exact of_eq_false nf_zGC | exact of_eq_false nf_zBA | exact of_eq_false nf_zDA | exact of_eq_false nf_zCA | exact of_eq_false nf_zBC | exact of_eq_false nf_zDC | exact of_eq_false nf_zSC | exact of_eq_false nf_zSP | exact of_eq_false nf_zLC | exact of_eq_false nf_zLB | exact of_eq_false nf_zLS | exact of_eq_false nf_zLP | exact of_eq_false nf_zTR) | omega | exact Nat.le_of_ble_eq_true rfl | ((with_reducible refine nI_ne0 ?_ ?_) <;> omega)) only [bk_180_0, tn_0, bl_al0, bl_iv1, tn_4, bl_c43, bl_iv2, bl_if_ne, bl_c45, bl_if_eq, bk_180_22, tn_22, bf_116_4, bf_116_8, ba_zCA, ba_zTR, ba_zSP, ba_zLP, ba_18, ba_19, ba_20, ba_21, ba_83, ba_87, ba_117, ba_118, ba_119, ba_120, ba_123, ba_124, ba_125, ba_126, ba_127, ba_128, ba_129, ba_130, ba_131, ba_132, bl_ic_ne, bl_cm25, bl_goto, bk_180_41, tn_41, bl_cm26, bk_180_43, tn_43, bl_is1, bl_c1, bl_il1, bk_180_61, tn_61, bl_rv, Option.bind_some, Option.bind_none, Option.toList_some, Option.toList_none, List.cons_append, List.nil_append, not_false_eq_true, not_true_eq_false, nI_10, nI_00, bI_0, bI_n0, if_true, if_false, true_and, and_true, and_false, false_and, Classical.not_not, ↓reduceIte, eq_self, Nat.reduceAdd, Nat.reduceMul, bl_nil, z_lt, z_le, z_gt, z_ge, nI_add, nI_mul, nI_sub, L_lt, L_le, L_eq, L_e0, N_ltT, N_ltF, N_leT, N_leF, N_eqT, N_eqF, gs_hit, gs_miss, eA, eB]
theorem m_smS (hk : ky < 3) (hc : c ≤ 96) (hb : ∀ k, B k < 256) (hS : mR X B c ky f 4 179) : mR X B c ky (f + 1) 3 180 := by
  intro p q s u D hp hq hf hD ok h hl h7 h8
  obtain ⟨D, rfl⟩ : ∃ D', D = D' + 20 := ⟨D - 20, by omega⟩
  obtain ⟨u1, e1, F1, S1, W1⟩ := hS p q s u (D + 19) hp hq (by omega) (by omega) ok h hl h7 h8
  obtain ⟨q1, q2, q3⟩ := pG_ok hk f 4 p q s ok
  have h81 : u1 54 8 = nI q := by rw [F1.2 8 (by omega) (by omega) (by omega) (by omega) (by omega) (by omega)]; exact h8
  have h71 : u1 54 7 = nI p := by rw [F1.2 7 (by omega) (by omega) (by omega) (by omega) (by omega) (by omega)]; exact h7
  rw [pG, if_neg (show ¬ 5 ≤ 3 by omega), cl_180]
  by_cases hr : (pG B c ky f (3 + 1) p q s).1 = true
  · rw [if_pos hr, if_neg (show ¬ 3 = 2 by omega)]
    obtain ⟨r0, l2, r1, r2, r3, r4⟩ := q3 hr
    obtain ⟨u', e, F, S, W⟩ := m_smL (X := X) (p := p) (q := q) (D := D) hk hc hb hS hp hq hf hD 96 _ u1 (.retAddr 0) (by omega) r0 (S1 hr) (by rw [r1, List.length_append]; omega) h71 h81
    refine ⟨u', ?_, fR_trans F1 F, S, W⟩
    rw [← e]
    simp -implicitDefEqProofs (disch := first | (with_reducible first | exact rt_180 | exact na_179 | exact k_116.trans mc_179.symm | exact na_174 | exact k_116.trans mc_174.symm | exact na_173 | exact k_116.trans mc_173.symm | exact na_175 | exact k_116.trans mc_175.symm | exact c1_i | exact c1_r | exact of_eq_false nf_zGC | exact of_eq_false nf_zBA | exact of_eq_false nf_zDA | exact of_eq_false nf_zCA | exact of_eq_false nf_zBC | exact of_eq_false nf_zDC | exact of_eq_false nf_zSC | exact of_eq_false nf_zSP | exact of_eq_false nf_zLC | exact of_eq_false nf_zLB | exact of_eq_false nf_zLS | exact of_eq_false nf_zLP | exact of_eq_false nf_zTR) | omega | exact Nat.le_of_ble_eq_true rfl | ((with_reducible refine nI_ne0 ?_ ?_) <;> omega)) only [bk_180_0, tn_0, bl_al0, bl_iv1, tn_4, bl_c43, bl_iv2, bl_if_ne, bl_c45, bl_if_eq, bk_180_22, tn_22, bf_116_4, bf_116_8, ba_zCA, ba_zTR, ba_zSP, ba_zLP, ba_18, ba_19, ba_20, ba_21, ba_83, ba_87, ba_117, ba_118, ba_119, ba_120, ba_123, ba_124, ba_125, ba_126, ba_127, ba_128, ba_129, ba_130, ba_131, ba_132, bl_ic_ne, bl_cm25, bl_goto, bk_180_41, tn_41, bl_cm26, bk_180_43, tn_43, bl_is1, bl_c1, bl_il1, bk_180_61, tn_61, bl_rv, Option.bind_some, Option.bind_none, Option.toList_some, Option.toList_none, List.cons_append, List.nil_append, not_false_eq_true, not_true_eq_false, nI_10, nI_00, bI_0, bI_n0, if_true, if_false, true_and, and_true, and_false, false_and, Classical.not_not, ↓reduceIte, eq_self, Nat.reduceAdd, Nat.reduceMul, bl_nil, z_lt, z_le, z_gt, z_ge, nI_add, nI_mul, nI_sub, L_lt, L_le, L_eq, L_e0, N_ltT, N_ltF, N_leT, N_leF, N_eqT, N_eqF, gs_hit, gs_miss, e1]
  · rw [if_neg hr]
    have W3 := W1 hr
    have e4 := fun y => m_isSgW (X := X) (d := D + 19) (x := y) W3.2
    refine ⟨u1, ?_, F1, fun y => (by cases y), fun _ => W3⟩
    simp -implicitDefEqProofs (disch := first | (with_reducible first | exact rt_180 | exact na_179 | exact k_116.trans mc_179.symm | exact na_174 | exact k_116.trans mc_174.symm | exact na_173 | exact k_116.trans mc_173.symm | exact na_175 | exact k_116.trans mc_175.symm | exact c1_i | exact c1_r | exact of_eq_false nf_zGC | exact of_eq_false nf_zBA | exact of_eq_false nf_zDA | exact of_eq_false nf_zCA | exact of_eq_false nf_zBC | exact of_eq_false nf_zDC | exact of_eq_false nf_zSC | exact of_eq_false nf_zSP | exact of_eq_false nf_zLC | exact of_eq_false nf_zLB | exact of_eq_false nf_zLS | exact of_eq_false nf_zLP | exact of_eq_false nf_zTR) | omega | exact Nat.le_of_ble_eq_true rfl | ((with_reducible refine nI_ne0 ?_ ?_) <;> omega)) only [bk_180_0, tn_0, bl_al0, bl_iv1, tn_4, bl_c43, bl_iv2, bl_if_ne, bl_c45, bl_if_eq, bk_180_22, tn_22, bf_116_4, bf_116_8, ba_zCA, ba_zTR, ba_zSP, ba_zLP, ba_18, ba_19, ba_20, ba_21, ba_83, ba_87, ba_117, ba_118, ba_119, ba_120, ba_123, ba_124, ba_125, ba_126, ba_127, ba_128, ba_129, ba_130, ba_131, ba_132, bl_ic_ne, bl_cm25, bl_goto, bk_180_41, tn_41, bl_cm26, bk_180_43, tn_43, bl_is1, bl_c1, bl_il1, bk_180_61, tn_61, bl_rv, Option.bind_some, Option.bind_none, Option.toList_some, Option.toList_none, List.cons_append, List.nil_append, not_false_eq_true, not_true_eq_false, nI_10, nI_00, bI_0, bI_n0, if_true, if_false, true_and, and_true, and_false, false_and, Classical.not_not, ↓reduceIte, eq_self, Nat.reduceAdd, Nat.reduceMul, bl_nil, z_lt, z_le, z_gt, z_ge, nI_add, nI_mul, nI_sub, L_lt, L_le, L_eq, L_e0, N_ltT, N_ltF, N_leT, N_leF, N_eqT, N_eqF, gs_hit, gs_miss, e1]
    rw [bk_180_4]
    simp -implicitDefEqProofs (disch := first | (with_reducible first | exact rt_180 | exact na_179 | exact k_116.trans mc_179.symm | exact na_174 | exact k_116.trans mc_174.symm | exact na_173 | exact k_116.trans mc_173.symm | exact na_175 | exact k_116.trans mc_175.symm | exact c1_i | exact c1_r | exact of_eq_false nf_zGC | exact of_eq_false nf_zBA | exact of_eq_false nf_zDA | exact of_eq_false nf_zCA | exact of_eq_false nf_zBC | exact of_eq_false nf_zDC | exact of_eq_false nf_zSC | exact of_eq_false nf_zSP | exact of_eq_false nf_zLC | exact of_eq_false nf_zLB | exact of_eq_false nf_zLS | exact of_eq_false nf_zLP | exact of_eq_false nf_zTR) | omega | exact Nat.le_of_ble_eq_true rfl | ((with_reducible refine nI_ne0 ?_ ?_) <;> omega)) only [bk_180_0, tn_0, bl_al0, bl_iv1, tn_4, bl_c43, bl_iv2, bl_if_ne, bl_c45, bl_if_eq, bk_180_22, tn_22, bf_116_4, bf_116_8, ba_zCA, ba_zTR, ba_zSP, ba_zLP, ba_18, ba_19, ba_20, ba_21, ba_83, ba_87, ba_117, ba_118, ba_119, ba_120, ba_123, ba_124, ba_125, ba_126, ba_127, ba_128, ba_129, ba_130, ba_131, ba_132, bl_ic_ne, bl_cm25, bl_goto, bk_180_41, tn_41, bl_cm26, bk_180_43, tn_43, bl_is1, bl_c1, bl_il1, bk_180_61, tn_61, bl_rv, Option.bind_some, Option.bind_none, Option.toList_some, Option.toList_none, List.cons_append, List.nil_append, not_false_eq_true, not_true_eq_false, nI_10, nI_00, bI_0, bI_n0, if_true, if_false, true_and, and_true, and_false, false_and, Classical.not_not, ↓reduceIte, eq_self, Nat.reduceAdd, Nat.reduceMul, bl_nil, z_lt, z_le, z_gt, z_ge, nI_add, nI_mul, nI_sub, L_lt, L_le, L_eq, L_e0, N_ltT, N_ltF, N_leT, N_leF, N_eqT, N_eqF, gs_hit, gs_miss, e4]
theorem m_anL {p q D : Nat} (hk : ky < 3) (hc : c ≤ 96) (hb : ∀ k, B k < 256) (hS : mR X B c ky f 2 181) (hp : p ≤ 8) (hq : q ≤ 8) (hf : 7 * ((8 - p) + (8 - q)) + (5 - 1) + 1 ≤ f + 1) (hD : 7 * (8 - p) + (8 - q) + (5 - 1) + 20 ≤ D + 20) : ∀ (k : Nat) (s : pS) (u : gt_M), 96 ≤ k + s.2.1 → okT B c s → rM B c ky u s → s.2.2.2.1.length ≤ s.2.1 → u 54 7 = nI p → u 54 8 = nI q → ∃ u', gm_ev X (D + 20) 182 4 [.ref 116] [] (gt_h u) = some (none, gt_h u') ∧ fR u u' ∧ ((pLp B c (pG B c ky f 2 p q) 1 k s).1 = true → rM B c ky u' (pLp B c (pG B c ky f 2 p q) 1 k s).2) ∧ (¬ (pLp B c (pG B c ky f 2 p q) 1 k s).1 = true → wM B c ky u' (pLp B c (pG B c ky f 2 p q) 1 k s).2) := by
  intro k
  induction k with
  | zero =>
    intro s u hk9 ok h hl h7 h8
    have n3 : ¬ s.1 = 3 := fun y => by
      have a1 := ok.2.2.2.1 y
      have a2 := ok.2.2.1
      omega
    have s0 : sgS B s = 0 := if_neg n3
    have eA := m_isSg (X := X) (d := D + 19) (g := 38) (by omega) (by omega) hc hb ok h
    rw [if_neg (by omega)] at eA
    refine ⟨u, ?_, fR_refl, fun _ => h, fun y => absurd rfl y⟩
    rw [bk_182_4]
    simp -implicitDefEqProofs (disch := first | (with_reducible first | exact rt_182 | exact na_181 | exact k_116.trans mc_181.symm | exact na_174 | exact k_116.trans mc_174.symm | exact na_173 | exact k_116.trans mc_173.symm | exact na_175 | exact k_116.trans mc_175.symm | exact c1_i | exact c1_r | exact of_eq_false nf_zGC | exact of_eq_false nf_zBA | exact of_eq_false nf_zDA | exact of_eq_false nf_zCA | exact of_eq_false nf_zBC | exact of_eq_false nf_zDC | exact of_eq_false nf_zSC | exact of_eq_false nf_zSP | exact of_eq_false nf_zLC | exact of_eq_false nf_zLB | exact of_eq_false nf_zLS | exact of_eq_false nf_zLP | exact of_eq_false nf_zTR) | omega | exact Nat.le_of_ble_eq_true rfl | ((with_reducible refine nI_ne0 ?_ ?_) <;> omega)) only [bk_182_0, tn_0, bl_al0, bl_iv1, tn_4, bl_c38, bl_iv2, bl_if_eq, bl_c1, bl_cm21, bl_goto, bk_182_31, tn_31, bl_rv, Option.bind_some, Option.bind_none, Option.toList_some, Option.toList_none, List.cons_append, List.nil_append, not_false_eq_true, not_true_eq_false, nI_10, nI_00, bI_0, bI_n0, if_true, if_false, true_and, and_true, and_false, false_and, Classical.not_not, ↓reduceIte, eq_self, Nat.reduceAdd, Nat.reduceMul, bl_nil, z_lt, z_le, z_gt, z_ge, nI_add, nI_mul, nI_sub, L_lt, L_le, L_eq, L_e0, N_ltT, N_ltF, N_leT, N_leF, N_eqT, N_eqF, gs_hit, gs_miss, eA]
  | succ k ih =>
    intro s u hk9 ok h hl h7 h8
    have eA := m_isSg (X := X) (d := D + 19) (g := 38) (by omega) (by omega) hc hb ok h
    rw [pLp]
    by_cases hg : lvO (sgS B s) = 1
    · rw [if_pos hg]
      obtain ⟨z1, z2, z3⟩ := lv_op (ky := ky) hg (by omega)
      have h3 := sg_3 (B := B) (s := s) z3
      have ho : sgS B s = 38 := (lvO_inv (g := sgS B s)).2.1 hg
      rw [if_pos ho] at eA
      obtain ⟨n1, n2⟩ := okT_nx (B := B) (c := c) (s := s) ok.2.2.1
      have n3 := ok.2.2.2.1 h3
      have hcode : (nxS B c s).2.2.2.1 = s.2.2.2.1 := rfl
      obtain ⟨u1, e1, R1, F1⟩ := m_must1 (X := X) (d := D + 16) hc hb ok h
      have h81 : u1 54 8 = nI q := by rw [F1.2 8 (by omega) (by omega) (by omega) (by omega) (by omega) (by omega)]; exact h8
      have h71 : u1 54 7 = nI p := by rw [F1.2 7 (by omega) (by omega) (by omega) (by omega) (by omega) (by omega)]; exact h7
      obtain ⟨u2, e2, F2, S2, W2⟩ := hS p q (nxS B c s) u1 (D + 19) hp hq (by omega) (by omega) n1 R1 (by rw [hcode]; omega) h71 h81
      obtain ⟨q1, q2, q3⟩ := pG_ok hk f 2 p q (nxS B c s) n1
      have h82 : u2 54 8 = nI q := by rw [F2.2 8 (by omega) (by omega) (by omega) (by omega) (by omega) (by omega)]; exact h81
      have h72 : u2 54 7 = nI p := by rw [F2.2 7 (by omega) (by omega) (by omega) (by omega) (by omega) (by omega)]; exact h71
      generalize hr0 : pG B c ky f 2 p q (nxS B c s) = r at *
      by_cases hr : r.1 = true
      · rw [if_pos hr]
        obtain ⟨r0, l2, r1, r2, r3, r4⟩ := q3 hr
        have hl2 : r.2.2.2.2.1.length + 1 ≤ r.2.2.1 := by
          rw [r1, List.length_append, hcode]
          omega
        obtain ⟨u3, e3, R3, F3⟩ := rM_em (X := X) (d := D + 19) (x := 20000 + sgS B s) (S2 hr) (ok_len r0 hc hl2)
        obtain ⟨u', e, F, S, W⟩ := ih (emS (20000 + sgS B s) r.2) u3 (by show 96 ≤ k + r.2.2.1; omega) r0 R3 (by
          show (r.2.2.2.2.1 ++ [20000 + sgS B s]).length ≤ r.2.2.1
          rw [List.length_append, List.length_singleton]
          exact hl2) (by rw [F3.2 7 (by omega) (by omega) (by omega) (by omega) (by omega) (by omega)]; exact h72) (by rw [F3.2 8 (by omega) (by omega) (by omega) (by omega) (by omega) (by omega)]; exact h82)
        refine ⟨u', ?_, fR_trans F1 (fR_trans F2 (fR_trans F3 F)), S, W⟩
        have er : rfI (20000 + sgS B s) = -21 := by rw [ho]; rfl
        rw [er] at e3
        rw [← e, bk_182_4]
        simp -implicitDefEqProofs (disch := first | (with_reducible first | exact rt_182 | exact na_181 | exact k_116.trans mc_181.symm | exact na_174 | exact k_116.trans mc_174.symm | exact na_173 | exact k_116.trans mc_173.symm | exact na_175 | exact k_116.trans mc_175.symm | exact c1_i | exact c1_r | exact of_eq_false nf_zGC | exact of_eq_false nf_zBA | exact of_eq_false nf_zDA | exact of_eq_false nf_zCA | exact of_eq_false nf_zBC | exact of_eq_false nf_zDC | exact of_eq_false nf_zSC | exact of_eq_false nf_zSP | exact of_eq_false nf_zLC | exact of_eq_false nf_zLB | exact of_eq_false nf_zLS | exact of_eq_false nf_zLP | exact of_eq_false nf_zTR) | omega | exact Nat.le_of_ble_eq_true rfl | ((with_reducible refine nI_ne0 ?_ ?_) <;> omega)) only [bk_182_0, tn_0, bl_al0, bl_iv1, tn_4, bl_c38, bl_iv2, bl_if_eq, bl_c1, bl_cm21, bl_goto, bk_182_31, tn_31, bl_rv, Option.bind_some, Option.bind_none, Option.toList_some, Option.toList_none, List.cons_append, List.nil_append, not_false_eq_true, not_true_eq_false, nI_10, nI_00, bI_0, bI_n0, if_true, if_false, true_and, and_true, and_false, false_and, Classical.not_not, ↓reduceIte, eq_self, Nat.reduceAdd, Nat.reduceMul, bl_nil, z_lt, z_le, z_gt, z_ge, nI_add, nI_mul, nI_sub, L_lt, L_le, L_eq, L_e0, N_ltT, N_ltF, N_leT, N_leF, N_eqT, N_eqF, gs_hit, gs_miss, eA, e1, e2, e3]
      · rw [if_neg hr]
        have W3 := W2 hr
        have e3 := fun y => m_stepW (X := X) (d := D + 19) (x := y) W3.2
        have e4 := fun y => m_isSgW (X := X) (d := D + 19) (x := y) W3.2
        refine ⟨u2, ?_, fR_trans F1 F2, fun y => (by cases y), fun _ => W3⟩
        rw [bk_182_4]
        simp -implicitDefEqProofs (disch := first | (with_reducible first | exact rt_182 | exact na_181 | exact k_116.trans mc_181.symm | exact na_174 | exact k_116.trans mc_174.symm | exact na_173 | exact k_116.trans mc_173.symm | exact na_175 | exact k_116.trans mc_175.symm | exact c1_i | exact c1_r | exact of_eq_false nf_zGC | exact of_eq_false nf_zBA | exact of_eq_false nf_zDA | exact of_eq_false nf_zCA | exact of_eq_false nf_zBC | exact of_eq_false nf_zDC | exact of_eq_false nf_zSC | exact of_eq_false nf_zSP | exact of_eq_false nf_zLC | exact of_eq_false nf_zLB | exact of_eq_false nf_zLS | exact of_eq_false nf_zLP | exact of_eq_false nf_zTR) | omega | exact Nat.le_of_ble_eq_true rfl | ((with_reducible refine nI_ne0 ?_ ?_) <;> omega)) only [bk_182_0, tn_0, bl_al0, bl_iv1, tn_4, bl_c38, bl_iv2, bl_if_eq, bl_c1, bl_cm21, bl_goto, bk_182_31, tn_31, bl_rv, Option.bind_some, Option.bind_none, Option.toList_some, Option.toList_none, List.cons_append, List.nil_append, not_false_eq_true, not_true_eq_false, nI_10, nI_00, bI_0, bI_n0, if_true, if_false, true_and, and_true, and_false, false_and, Classical.not_not, ↓reduceIte, eq_self, Nat.reduceAdd, Nat.reduceMul, bl_nil, z_lt, z_le, z_gt, z_ge, nI_add, nI_mul, nI_sub, L_lt, L_le, L_eq, L_e0, N_ltT, N_ltF, N_leT, N_leF, N_eqT, N_eqF, gs_hit, gs_miss, eA, e1, e2, e3]
        rw [bk_182_4]
        simp -implicitDefEqProofs (disch := first | (with_reducible first | exact rt_182 | exact na_181 | exact k_116.trans mc_181.symm | exact na_174 | exact k_116.trans mc_174.symm | exact na_173 | exact k_116.trans mc_173.symm | exact na_175 | exact k_116.trans mc_175.symm | exact c1_i | exact c1_r | exact of_eq_false nf_zGC | exact of_eq_false nf_zBA | exact of_eq_false nf_zDA | exact of_eq_false nf_zCA | exact of_eq_false nf_zBC | exact of_eq_false nf_zDC | exact of_eq_false nf_zSC | exact of_eq_false nf_zSP | exact of_eq_false nf_zLC | exact of_eq_false nf_zLB | exact of_eq_false nf_zLS | exact of_eq_false nf_zLP | exact of_eq_false nf_zTR) | omega | exact Nat.le_of_ble_eq_true rfl | ((with_reducible refine nI_ne0 ?_ ?_) <;> omega)) only [bk_182_0, tn_0, bl_al0, bl_iv1, tn_4, bl_c38, bl_iv2, bl_if_eq, bl_c1, bl_cm21, bl_goto, bk_182_31, tn_31, bl_rv, Option.bind_some, Option.bind_none, Option.toList_some, Option.toList_none, List.cons_append, List.nil_append, not_false_eq_true, not_true_eq_false, nI_10, nI_00, bI_0, bI_n0, if_true, if_false, true_and, and_true, and_false, false_and, Classical.not_not, ↓reduceIte, eq_self, Nat.reduceAdd, Nat.reduceMul, bl_nil, z_lt, z_le, z_gt, z_ge, nI_add, nI_mul, nI_sub, L_lt, L_le, L_eq, L_e0, N_ltT, N_ltF, N_leT, N_leF, N_eqT, N_eqF, gs_hit, gs_miss, e4]
    · rw [if_neg hg]
      have hA : ¬ sgS B s = 38 := fun y => hg (by rw [y]; rfl)
      rw [if_neg hA] at eA
      refine ⟨u, ?_, fR_refl, fun _ => h, fun y => absurd rfl y⟩
      rw [bk_182_4]
      simp -implicitDefEqProofs (disch := first | (with_reducible first | exact rt_182 | exact na_181 | exact k_116.trans mc_181.symm | exact na_174 | exact k_116.trans mc_174.symm | exact na_173 | exact k_116.trans mc_173.symm | exact na_175 | exact k_116.trans mc_175.symm | exact c1_i | exact c1_r | exact of_eq_false nf_zGC | exact of_eq_false nf_zBA | exact of_eq_false nf_zDA | exact of_eq_false nf_zCA | exact of_eq_false nf_zBC | exact of_eq_false nf_zDC | exact of_eq_false nf_zSC | exact of_eq_false nf_zSP | exact of_eq_false nf_zLC | exact of_eq_false nf_zLB | exact of_eq_false nf_zLS | exact of_eq_false nf_zLP | exact of_eq_false nf_zTR) | omega | exact Nat.le_of_ble_eq_true rfl | ((with_reducible refine nI_ne0 ?_ ?_) <;> omega)) only [bk_182_0, tn_0, bl_al0, bl_iv1, tn_4, bl_c38, bl_iv2, bl_if_eq, bl_c1, bl_cm21, bl_goto, bk_182_31, tn_31, bl_rv, Option.bind_some, Option.bind_none, Option.toList_some, Option.toList_none, List.cons_append, List.nil_append, not_false_eq_true, not_true_eq_false, nI_10, nI_00, bI_0, bI_n0, if_true, if_false, true_and, and_true, and_false, false_and, Classical.not_not, ↓reduceIte, eq_self, Nat.reduceAdd, Nat.reduceMul, bl_nil, z_lt, z_le, z_gt, z_ge, nI_add, nI_mul, nI_sub, L_lt, L_le, L_eq, L_e0, N_ltT, N_ltF, N_leT, N_leF, N_eqT, N_eqF, gs_hit, gs_miss, eA]
theorem m_anS (hk : ky < 3) (hc : c ≤ 96) (hb : ∀ k, B k < 256) (hS : mR X B c ky f 2 181) : mR X B c ky (f + 1) 1 182 := by
  intro p q s u D hp hq hf hD ok h hl h7 h8
  obtain ⟨D, rfl⟩ : ∃ D', D = D' + 20 := ⟨D - 20, by omega⟩
  obtain ⟨u1, e1, F1, S1, W1⟩ := hS p q s u (D + 19) hp hq (by omega) (by omega) ok h hl h7 h8
  obtain ⟨q1, q2, q3⟩ := pG_ok hk f 2 p q s ok
  have h81 : u1 54 8 = nI q := by rw [F1.2 8 (by omega) (by omega) (by omega) (by omega) (by omega) (by omega)]; exact h8
  have h71 : u1 54 7 = nI p := by rw [F1.2 7 (by omega) (by omega) (by omega) (by omega) (by omega) (by omega)]; exact h7
  rw [pG, if_neg (show ¬ 5 ≤ 1 by omega), cl_182]
  by_cases hr : (pG B c ky f (1 + 1) p q s).1 = true
  · rw [if_pos hr, if_neg (show ¬ 1 = 2 by omega)]
    obtain ⟨r0, l2, r1, r2, r3, r4⟩ := q3 hr
    obtain ⟨u', e, F, S, W⟩ := m_anL (X := X) (p := p) (q := q) (D := D) hk hc hb hS hp hq hf hD 96 _ u1 (by omega) r0 (S1 hr) (by rw [r1, List.length_append]; omega) h71 h81
    refine ⟨u', ?_, fR_trans F1 F, S, W⟩
    rw [← e]
    simp -implicitDefEqProofs (disch := first | (with_reducible first | exact rt_182 | exact na_181 | exact k_116.trans mc_181.symm | exact na_174 | exact k_116.trans mc_174.symm | exact na_173 | exact k_116.trans mc_173.symm | exact na_175 | exact k_116.trans mc_175.symm | exact c1_i | exact c1_r | exact of_eq_false nf_zGC | exact of_eq_false nf_zBA | exact of_eq_false nf_zDA | exact of_eq_false nf_zCA | exact of_eq_false nf_zBC | exact of_eq_false nf_zDC | exact of_eq_false nf_zSC | exact of_eq_false nf_zSP | exact of_eq_false nf_zLC | exact of_eq_false nf_zLB | exact of_eq_false nf_zLS | exact of_eq_false nf_zLP | exact of_eq_false nf_zTR) | omega | exact Nat.le_of_ble_eq_true rfl | ((with_reducible refine nI_ne0 ?_ ?_) <;> omega)) only [bk_182_0, tn_0, bl_al0, bl_iv1, tn_4, bl_c38, bl_iv2, bl_if_eq, bl_c1, bl_cm21, bl_goto, bk_182_31, tn_31, bl_rv, Option.bind_some, Option.bind_none, Option.toList_some, Option.toList_none, List.cons_append, List.nil_append, not_false_eq_true, not_true_eq_false, nI_10, nI_00, bI_0, bI_n0, if_true, if_false, true_and, and_true, and_false, false_and, Classical.not_not, ↓reduceIte, eq_self, Nat.reduceAdd, Nat.reduceMul, bl_nil, z_lt, z_le, z_gt, z_ge, nI_add, nI_mul, nI_sub, L_lt, L_le, L_eq, L_e0, N_ltT, N_ltF, N_leT, N_leF, N_eqT, N_eqF, gs_hit, gs_miss, e1]
  · rw [if_neg hr]
    have W3 := W1 hr
    have e4 := fun y => m_isSgW (X := X) (d := D + 19) (x := y) W3.2
    refine ⟨u1, ?_, F1, fun y => (by cases y), fun _ => W3⟩
    simp -implicitDefEqProofs (disch := first | (with_reducible first | exact rt_182 | exact na_181 | exact k_116.trans mc_181.symm | exact na_174 | exact k_116.trans mc_174.symm | exact na_173 | exact k_116.trans mc_173.symm | exact na_175 | exact k_116.trans mc_175.symm | exact c1_i | exact c1_r | exact of_eq_false nf_zGC | exact of_eq_false nf_zBA | exact of_eq_false nf_zDA | exact of_eq_false nf_zCA | exact of_eq_false nf_zBC | exact of_eq_false nf_zDC | exact of_eq_false nf_zSC | exact of_eq_false nf_zSP | exact of_eq_false nf_zLC | exact of_eq_false nf_zLB | exact of_eq_false nf_zLS | exact of_eq_false nf_zLP | exact of_eq_false nf_zTR) | omega | exact Nat.le_of_ble_eq_true rfl | ((with_reducible refine nI_ne0 ?_ ?_) <;> omega)) only [bk_182_0, tn_0, bl_al0, bl_iv1, tn_4, bl_c38, bl_iv2, bl_if_eq, bl_c1, bl_cm21, bl_goto, bk_182_31, tn_31, bl_rv, Option.bind_some, Option.bind_none, Option.toList_some, Option.toList_none, List.cons_append, List.nil_append, not_false_eq_true, not_true_eq_false, nI_10, nI_00, bI_0, bI_n0, if_true, if_false, true_and, and_true, and_false, false_and, Classical.not_not, ↓reduceIte, eq_self, Nat.reduceAdd, Nat.reduceMul, bl_nil, z_lt, z_le, z_gt, z_ge, nI_add, nI_mul, nI_sub, L_lt, L_le, L_eq, L_e0, N_ltT, N_ltF, N_leT, N_leF, N_eqT, N_eqF, gs_hit, gs_miss, e1]
    rw [bk_182_4]
    simp -implicitDefEqProofs (disch := first | (with_reducible first | exact rt_182 | exact na_181 | exact k_116.trans mc_181.symm | exact na_174 | exact k_116.trans mc_174.symm | exact na_173 | exact k_116.trans mc_173.symm | exact na_175 | exact k_116.trans mc_175.symm | exact c1_i | exact c1_r | exact of_eq_false nf_zGC | exact of_eq_false nf_zBA | exact of_eq_false nf_zDA | exact of_eq_false nf_zCA | exact of_eq_false nf_zBC | exact of_eq_false nf_zDC | exact of_eq_false nf_zSC | exact of_eq_false nf_zSP | exact of_eq_false nf_zLC | exact of_eq_false nf_zLB | exact of_eq_false nf_zLS | exact of_eq_false nf_zLP | exact of_eq_false nf_zTR) | omega | exact Nat.le_of_ble_eq_true rfl | ((with_reducible refine nI_ne0 ?_ ?_) <;> omega)) only [bk_182_0, tn_0, bl_al0, bl_iv1, tn_4, bl_c38, bl_iv2, bl_if_eq, bl_c1, bl_cm21, bl_goto, bk_182_31, tn_31, bl_rv, Option.bind_some, Option.bind_none, Option.toList_some, Option.toList_none, List.cons_append, List.nil_append, not_false_eq_true, not_true_eq_false, nI_10, nI_00, bI_0, bI_n0, if_true, if_false, true_and, and_true, and_false, false_and, Classical.not_not, ↓reduceIte, eq_self, Nat.reduceAdd, Nat.reduceMul, bl_nil, z_lt, z_le, z_gt, z_ge, nI_add, nI_mul, nI_sub, L_lt, L_le, L_eq, L_e0, N_ltT, N_ltF, N_leT, N_leF, N_eqT, N_eqF, gs_hit, gs_miss, e4]
theorem m_orL {p q D : Nat} (hk : ky < 3) (hc : c ≤ 96) (hb : ∀ k, B k < 256) (hS : mR X B c ky f 1 182) (hp : p ≤ 8) (hq : q ≤ 8) (hf : 7 * ((8 - p) + (8 - q)) + (5 - 0) + 1 ≤ f + 1) (hD : 7 * (8 - p) + (8 - q) + (5 - 0) + 20 ≤ D + 20) : ∀ (k : Nat) (s : pS) (u : gt_M), 96 ≤ k + s.2.1 → okT B c s → rM B c ky u s → s.2.2.2.1.length ≤ s.2.1 → u 54 7 = nI p → u 54 8 = nI q → ∃ u', gm_ev X (D + 20) 183 4 [.ref 116] [] (gt_h u) = some (none, gt_h u') ∧ fR u u' ∧ ((pLp B c (pG B c ky f 1 p q) 0 k s).1 = true → rM B c ky u' (pLp B c (pG B c ky f 1 p q) 0 k s).2) ∧ (¬ (pLp B c (pG B c ky f 1 p q) 0 k s).1 = true → wM B c ky u' (pLp B c (pG B c ky f 1 p q) 0 k s).2) := by
  intro k
  induction k with
  | zero =>
    intro s u hk9 ok h hl h7 h8
    have n3 : ¬ s.1 = 3 := fun y => by
      have a1 := ok.2.2.2.1 y
      have a2 := ok.2.2.1
      omega
    have s0 : sgS B s = 0 := if_neg n3
    have eA := m_isSg (X := X) (d := D + 19) (g := 124) (by omega) (by omega) hc hb ok h
    rw [if_neg (by omega)] at eA
    refine ⟨u, ?_, fR_refl, fun _ => h, fun y => absurd rfl y⟩
    rw [bk_183_4]
    simp -implicitDefEqProofs (disch := first | (with_reducible first | exact rt_183 | exact na_182 | exact k_116.trans mc_182.symm | exact na_174 | exact k_116.trans mc_174.symm | exact na_173 | exact k_116.trans mc_173.symm | exact na_175 | exact k_116.trans mc_175.symm | exact c1_i | exact c1_r | exact of_eq_false nf_zGC | exact of_eq_false nf_zBA | exact of_eq_false nf_zDA | exact of_eq_false nf_zCA | exact of_eq_false nf_zBC | exact of_eq_false nf_zDC | exact of_eq_false nf_zSC | exact of_eq_false nf_zSP | exact of_eq_false nf_zLC | exact of_eq_false nf_zLB | exact of_eq_false nf_zLS | exact of_eq_false nf_zLP | exact of_eq_false nf_zTR) | omega | exact Nat.le_of_ble_eq_true rfl | ((with_reducible refine nI_ne0 ?_ ?_) <;> omega)) only [bk_183_0, tn_0, bl_al0, bl_iv1, tn_4, bl_c124, bl_iv2, bl_if_eq, bl_c1, bl_cm20, bl_goto, bk_183_31, tn_31, bl_rv, Option.bind_some, Option.bind_none, Option.toList_some, Option.toList_none, List.cons_append, List.nil_append, not_false_eq_true, not_true_eq_false, nI_10, nI_00, bI_0, bI_n0, if_true, if_false, true_and, and_true, and_false, false_and, Classical.not_not, ↓reduceIte, eq_self, Nat.reduceAdd, Nat.reduceMul, bl_nil, z_lt, z_le, z_gt, z_ge, nI_add, nI_mul, nI_sub, L_lt, L_le, L_eq, L_e0, N_ltT, N_ltF, N_leT, N_leF, N_eqT, N_eqF, gs_hit, gs_miss, eA]
  | succ k ih =>
    intro s u hk9 ok h hl h7 h8
    have eA := m_isSg (X := X) (d := D + 19) (g := 124) (by omega) (by omega) hc hb ok h
    rw [pLp]
    by_cases hg : lvO (sgS B s) = 0
    · rw [if_pos hg]
      obtain ⟨z1, z2, z3⟩ := lv_op (ky := ky) hg (by omega)
      have h3 := sg_3 (B := B) (s := s) z3
      have ho : sgS B s = 124 := (lvO_inv (g := sgS B s)).1 hg
      rw [if_pos ho] at eA
      obtain ⟨n1, n2⟩ := okT_nx (B := B) (c := c) (s := s) ok.2.2.1
      have n3 := ok.2.2.2.1 h3
      have hcode : (nxS B c s).2.2.2.1 = s.2.2.2.1 := rfl
      obtain ⟨u1, e1, R1, F1⟩ := m_must1 (X := X) (d := D + 16) hc hb ok h
      have h81 : u1 54 8 = nI q := by rw [F1.2 8 (by omega) (by omega) (by omega) (by omega) (by omega) (by omega)]; exact h8
      have h71 : u1 54 7 = nI p := by rw [F1.2 7 (by omega) (by omega) (by omega) (by omega) (by omega) (by omega)]; exact h7
      obtain ⟨u2, e2, F2, S2, W2⟩ := hS p q (nxS B c s) u1 (D + 19) hp hq (by omega) (by omega) n1 R1 (by rw [hcode]; omega) h71 h81
      obtain ⟨q1, q2, q3⟩ := pG_ok hk f 1 p q (nxS B c s) n1
      have h82 : u2 54 8 = nI q := by rw [F2.2 8 (by omega) (by omega) (by omega) (by omega) (by omega) (by omega)]; exact h81
      have h72 : u2 54 7 = nI p := by rw [F2.2 7 (by omega) (by omega) (by omega) (by omega) (by omega) (by omega)]; exact h71
      generalize hr0 : pG B c ky f 1 p q (nxS B c s) = r at *
      by_cases hr : r.1 = true
      · rw [if_pos hr]
        obtain ⟨r0, l2, r1, r2, r3, r4⟩ := q3 hr
        have hl2 : r.2.2.2.2.1.length + 1 ≤ r.2.2.1 := by
          rw [r1, List.length_append, hcode]
          omega
        obtain ⟨u3, e3, R3, F3⟩ := rM_em (X := X) (d := D + 19) (x := 20000 + sgS B s) (S2 hr) (ok_len r0 hc hl2)
        obtain ⟨u', e, F, S, W⟩ := ih (emS (20000 + sgS B s) r.2) u3 (by show 96 ≤ k + r.2.2.1; omega) r0 R3 (by
          show (r.2.2.2.2.1 ++ [20000 + sgS B s]).length ≤ r.2.2.1
          rw [List.length_append, List.length_singleton]
          exact hl2) (by rw [F3.2 7 (by omega) (by omega) (by omega) (by omega) (by omega) (by omega)]; exact h72) (by rw [F3.2 8 (by omega) (by omega) (by omega) (by omega) (by omega) (by omega)]; exact h82)
        refine ⟨u', ?_, fR_trans F1 (fR_trans F2 (fR_trans F3 F)), S, W⟩
        have er : rfI (20000 + sgS B s) = -20 := by rw [ho]; rfl
        rw [er] at e3
        rw [← e, bk_183_4]
        simp -implicitDefEqProofs (disch := first | (with_reducible first | exact rt_183 | exact na_182 | exact k_116.trans mc_182.symm | exact na_174 | exact k_116.trans mc_174.symm | exact na_173 | exact k_116.trans mc_173.symm | exact na_175 | exact k_116.trans mc_175.symm | exact c1_i | exact c1_r | exact of_eq_false nf_zGC | exact of_eq_false nf_zBA | exact of_eq_false nf_zDA | exact of_eq_false nf_zCA | exact of_eq_false nf_zBC | exact of_eq_false nf_zDC | exact of_eq_false nf_zSC | exact of_eq_false nf_zSP | exact of_eq_false nf_zLC | exact of_eq_false nf_zLB | exact of_eq_false nf_zLS | exact of_eq_false nf_zLP | exact of_eq_false nf_zTR) | omega | exact Nat.le_of_ble_eq_true rfl | ((with_reducible refine nI_ne0 ?_ ?_) <;> omega)) only [bk_183_0, tn_0, bl_al0, bl_iv1, tn_4, bl_c124, bl_iv2, bl_if_eq, bl_c1, bl_cm20, bl_goto, bk_183_31, tn_31, bl_rv, Option.bind_some, Option.bind_none, Option.toList_some, Option.toList_none, List.cons_append, List.nil_append, not_false_eq_true, not_true_eq_false, nI_10, nI_00, bI_0, bI_n0, if_true, if_false, true_and, and_true, and_false, false_and, Classical.not_not, ↓reduceIte, eq_self, Nat.reduceAdd, Nat.reduceMul, bl_nil, z_lt, z_le, z_gt, z_ge, nI_add, nI_mul, nI_sub, L_lt, L_le, L_eq, L_e0, N_ltT, N_ltF, N_leT, N_leF, N_eqT, N_eqF, gs_hit, gs_miss, eA, e1, e2, e3]
      · rw [if_neg hr]
        have W3 := W2 hr
        have e3 := fun y => m_stepW (X := X) (d := D + 19) (x := y) W3.2
        have e4 := fun y => m_isSgW (X := X) (d := D + 19) (x := y) W3.2
        refine ⟨u2, ?_, fR_trans F1 F2, fun y => (by cases y), fun _ => W3⟩
        rw [bk_183_4]
        simp -implicitDefEqProofs (disch := first | (with_reducible first | exact rt_183 | exact na_182 | exact k_116.trans mc_182.symm | exact na_174 | exact k_116.trans mc_174.symm | exact na_173 | exact k_116.trans mc_173.symm | exact na_175 | exact k_116.trans mc_175.symm | exact c1_i | exact c1_r | exact of_eq_false nf_zGC | exact of_eq_false nf_zBA | exact of_eq_false nf_zDA | exact of_eq_false nf_zCA | exact of_eq_false nf_zBC | exact of_eq_false nf_zDC | exact of_eq_false nf_zSC | exact of_eq_false nf_zSP | exact of_eq_false nf_zLC | exact of_eq_false nf_zLB | exact of_eq_false nf_zLS | exact of_eq_false nf_zLP | exact of_eq_false nf_zTR) | omega | exact Nat.le_of_ble_eq_true rfl | ((with_reducible refine nI_ne0 ?_ ?_) <;> omega)) only [bk_183_0, tn_0, bl_al0, bl_iv1, tn_4, bl_c124, bl_iv2, bl_if_eq, bl_c1, bl_cm20, bl_goto, bk_183_31, tn_31, bl_rv, Option.bind_some, Option.bind_none, Option.toList_some, Option.toList_none, List.cons_append, List.nil_append, not_false_eq_true, not_true_eq_false, nI_10, nI_00, bI_0, bI_n0, if_true, if_false, true_and, and_true, and_false, false_and, Classical.not_not, ↓reduceIte, eq_self, Nat.reduceAdd, Nat.reduceMul, bl_nil, z_lt, z_le, z_gt, z_ge, nI_add, nI_mul, nI_sub, L_lt, L_le, L_eq, L_e0, N_ltT, N_ltF, N_leT, N_leF, N_eqT, N_eqF, gs_hit, gs_miss, eA, e1, e2, e3]
        rw [bk_183_4]
        simp -implicitDefEqProofs (disch := first | (with_reducible first | exact rt_183 | exact na_182 | exact k_116.trans mc_182.symm | exact na_174 | exact k_116.trans mc_174.symm | exact na_173 | exact k_116.trans mc_173.symm | exact na_175 | exact k_116.trans mc_175.symm | exact c1_i | exact c1_r | exact of_eq_false nf_zGC | exact of_eq_false nf_zBA | exact of_eq_false nf_zDA | exact of_eq_false nf_zCA | exact of_eq_false nf_zBC | exact of_eq_false nf_zDC | exact of_eq_false nf_zSC | exact of_eq_false nf_zSP | exact of_eq_false nf_zLC | exact of_eq_false nf_zLB | exact of_eq_false nf_zLS | exact of_eq_false nf_zLP | exact of_eq_false nf_zTR) | omega | exact Nat.le_of_ble_eq_true rfl | ((with_reducible refine nI_ne0 ?_ ?_) <;> omega)) only [bk_183_0, tn_0, bl_al0, bl_iv1, tn_4, bl_c124, bl_iv2, bl_if_eq, bl_c1, bl_cm20, bl_goto, bk_183_31, tn_31, bl_rv, Option.bind_some, Option.bind_none, Option.toList_some, Option.toList_none, List.cons_append, List.nil_append, not_false_eq_true, not_true_eq_false, nI_10, nI_00, bI_0, bI_n0, if_true, if_false, true_and, and_true, and_false, false_and, Classical.not_not, ↓reduceIte, eq_self, Nat.reduceAdd, Nat.reduceMul, bl_nil, z_lt, z_le, z_gt, z_ge, nI_add, nI_mul, nI_sub, L_lt, L_le, L_eq, L_e0, N_ltT, N_ltF, N_leT, N_leF, N_eqT, N_eqF, gs_hit, gs_miss, e4]
    · rw [if_neg hg]
      have hA : ¬ sgS B s = 124 := fun y => hg (by rw [y]; rfl)
      rw [if_neg hA] at eA
      refine ⟨u, ?_, fR_refl, fun _ => h, fun y => absurd rfl y⟩
      rw [bk_183_4]
      simp -implicitDefEqProofs (disch := first | (with_reducible first | exact rt_183 | exact na_182 | exact k_116.trans mc_182.symm | exact na_174 | exact k_116.trans mc_174.symm | exact na_173 | exact k_116.trans mc_173.symm | exact na_175 | exact k_116.trans mc_175.symm | exact c1_i | exact c1_r | exact of_eq_false nf_zGC | exact of_eq_false nf_zBA | exact of_eq_false nf_zDA | exact of_eq_false nf_zCA | exact of_eq_false nf_zBC | exact of_eq_false nf_zDC | exact of_eq_false nf_zSC | exact of_eq_false nf_zSP | exact of_eq_false nf_zLC | exact of_eq_false nf_zLB | exact of_eq_false nf_zLS | exact of_eq_false nf_zLP | exact of_eq_false nf_zTR) | omega | exact Nat.le_of_ble_eq_true rfl | ((with_reducible refine nI_ne0 ?_ ?_) <;> omega)) only [bk_183_0, tn_0, bl_al0, bl_iv1, tn_4, bl_c124, bl_iv2, bl_if_eq, bl_c1, bl_cm20, bl_goto, bk_183_31, tn_31, bl_rv, Option.bind_some, Option.bind_none, Option.toList_some, Option.toList_none, List.cons_append, List.nil_append, not_false_eq_true, not_true_eq_false, nI_10, nI_00, bI_0, bI_n0, if_true, if_false, true_and, and_true, and_false, false_and, Classical.not_not, ↓reduceIte, eq_self, Nat.reduceAdd, Nat.reduceMul, bl_nil, z_lt, z_le, z_gt, z_ge, nI_add, nI_mul, nI_sub, L_lt, L_le, L_eq, L_e0, N_ltT, N_ltF, N_leT, N_leF, N_eqT, N_eqF, gs_hit, gs_miss, eA]
theorem m_orS (hk : ky < 3) (hc : c ≤ 96) (hb : ∀ k, B k < 256) (hS : mR X B c ky f 1 182) : mR X B c ky (f + 1) 0 183 := by
  intro p q s u D hp hq hf hD ok h hl h7 h8
  obtain ⟨D, rfl⟩ : ∃ D', D = D' + 20 := ⟨D - 20, by omega⟩
  obtain ⟨u1, e1, F1, S1, W1⟩ := hS p q s u (D + 19) hp hq (by omega) (by omega) ok h hl h7 h8
  obtain ⟨q1, q2, q3⟩ := pG_ok hk f 1 p q s ok
  have h81 : u1 54 8 = nI q := by rw [F1.2 8 (by omega) (by omega) (by omega) (by omega) (by omega) (by omega)]; exact h8
  have h71 : u1 54 7 = nI p := by rw [F1.2 7 (by omega) (by omega) (by omega) (by omega) (by omega) (by omega)]; exact h7
  rw [pG, if_neg (show ¬ 5 ≤ 0 by omega), cl_183]
  by_cases hr : (pG B c ky f (0 + 1) p q s).1 = true
  · rw [if_pos hr, if_neg (show ¬ 0 = 2 by omega)]
    obtain ⟨r0, l2, r1, r2, r3, r4⟩ := q3 hr
    obtain ⟨u', e, F, S, W⟩ := m_orL (X := X) (p := p) (q := q) (D := D) hk hc hb hS hp hq hf hD 96 _ u1 (by omega) r0 (S1 hr) (by rw [r1, List.length_append]; omega) h71 h81
    refine ⟨u', ?_, fR_trans F1 F, S, W⟩
    rw [← e]
    simp -implicitDefEqProofs (disch := first | (with_reducible first | exact rt_183 | exact na_182 | exact k_116.trans mc_182.symm | exact na_174 | exact k_116.trans mc_174.symm | exact na_173 | exact k_116.trans mc_173.symm | exact na_175 | exact k_116.trans mc_175.symm | exact c1_i | exact c1_r | exact of_eq_false nf_zGC | exact of_eq_false nf_zBA | exact of_eq_false nf_zDA | exact of_eq_false nf_zCA | exact of_eq_false nf_zBC | exact of_eq_false nf_zDC | exact of_eq_false nf_zSC | exact of_eq_false nf_zSP | exact of_eq_false nf_zLC | exact of_eq_false nf_zLB | exact of_eq_false nf_zLS | exact of_eq_false nf_zLP | exact of_eq_false nf_zTR) | omega | exact Nat.le_of_ble_eq_true rfl | ((with_reducible refine nI_ne0 ?_ ?_) <;> omega)) only [bk_183_0, tn_0, bl_al0, bl_iv1, tn_4, bl_c124, bl_iv2, bl_if_eq, bl_c1, bl_cm20, bl_goto, bk_183_31, tn_31, bl_rv, Option.bind_some, Option.bind_none, Option.toList_some, Option.toList_none, List.cons_append, List.nil_append, not_false_eq_true, not_true_eq_false, nI_10, nI_00, bI_0, bI_n0, if_true, if_false, true_and, and_true, and_false, false_and, Classical.not_not, ↓reduceIte, eq_self, Nat.reduceAdd, Nat.reduceMul, bl_nil, z_lt, z_le, z_gt, z_ge, nI_add, nI_mul, nI_sub, L_lt, L_le, L_eq, L_e0, N_ltT, N_ltF, N_leT, N_leF, N_eqT, N_eqF, gs_hit, gs_miss, e1]
  · rw [if_neg hr]
    have W3 := W1 hr
    have e4 := fun y => m_isSgW (X := X) (d := D + 19) (x := y) W3.2
    refine ⟨u1, ?_, F1, fun y => (by cases y), fun _ => W3⟩
    simp -implicitDefEqProofs (disch := first | (with_reducible first | exact rt_183 | exact na_182 | exact k_116.trans mc_182.symm | exact na_174 | exact k_116.trans mc_174.symm | exact na_173 | exact k_116.trans mc_173.symm | exact na_175 | exact k_116.trans mc_175.symm | exact c1_i | exact c1_r | exact of_eq_false nf_zGC | exact of_eq_false nf_zBA | exact of_eq_false nf_zDA | exact of_eq_false nf_zCA | exact of_eq_false nf_zBC | exact of_eq_false nf_zDC | exact of_eq_false nf_zSC | exact of_eq_false nf_zSP | exact of_eq_false nf_zLC | exact of_eq_false nf_zLB | exact of_eq_false nf_zLS | exact of_eq_false nf_zLP | exact of_eq_false nf_zTR) | omega | exact Nat.le_of_ble_eq_true rfl | ((with_reducible refine nI_ne0 ?_ ?_) <;> omega)) only [bk_183_0, tn_0, bl_al0, bl_iv1, tn_4, bl_c124, bl_iv2, bl_if_eq, bl_c1, bl_cm20, bl_goto, bk_183_31, tn_31, bl_rv, Option.bind_some, Option.bind_none, Option.toList_some, Option.toList_none, List.cons_append, List.nil_append, not_false_eq_true, not_true_eq_false, nI_10, nI_00, bI_0, bI_n0, if_true, if_false, true_and, and_true, and_false, false_and, Classical.not_not, ↓reduceIte, eq_self, Nat.reduceAdd, Nat.reduceMul, bl_nil, z_lt, z_le, z_gt, z_ge, nI_add, nI_mul, nI_sub, L_lt, L_le, L_eq, L_e0, N_ltT, N_ltF, N_leT, N_leF, N_eqT, N_eqF, gs_hit, gs_miss, e1]
    rw [bk_183_4]
    simp -implicitDefEqProofs (disch := first | (with_reducible first | exact rt_183 | exact na_182 | exact k_116.trans mc_182.symm | exact na_174 | exact k_116.trans mc_174.symm | exact na_173 | exact k_116.trans mc_173.symm | exact na_175 | exact k_116.trans mc_175.symm | exact c1_i | exact c1_r | exact of_eq_false nf_zGC | exact of_eq_false nf_zBA | exact of_eq_false nf_zDA | exact of_eq_false nf_zCA | exact of_eq_false nf_zBC | exact of_eq_false nf_zDC | exact of_eq_false nf_zSC | exact of_eq_false nf_zSP | exact of_eq_false nf_zLC | exact of_eq_false nf_zLB | exact of_eq_false nf_zLS | exact of_eq_false nf_zLP | exact of_eq_false nf_zTR) | omega | exact Nat.le_of_ble_eq_true rfl | ((with_reducible refine nI_ne0 ?_ ?_) <;> omega)) only [bk_183_0, tn_0, bl_al0, bl_iv1, tn_4, bl_c124, bl_iv2, bl_if_eq, bl_c1, bl_cm20, bl_goto, bk_183_31, tn_31, bl_rv, Option.bind_some, Option.bind_none, Option.toList_some, Option.toList_none, List.cons_append, List.nil_append, not_false_eq_true, not_true_eq_false, nI_10, nI_00, bI_0, bI_n0, if_true, if_false, true_and, and_true, and_false, false_and, Classical.not_not, ↓reduceIte, eq_self, Nat.reduceAdd, Nat.reduceMul, bl_nil, z_lt, z_le, z_gt, z_ge, nI_add, nI_mul, nI_sub, L_lt, L_le, L_eq, L_e0, N_ltT, N_ltF, N_leT, N_leF, N_eqT, N_eqF, gs_hit, gs_miss, e4]
theorem m_tsS (hk : ky < 3) (hc : c ≤ 96) (hb : ∀ k, B k < 256) (hS : mR X B c ky f 3 180) : mR X B c ky (f + 1) 2 181 := by
  intro p q s u D hp hq hf hD ok h hl h7 h8
  obtain ⟨D, rfl⟩ : ∃ D', D = D' + 20 := ⟨D - 20, by omega⟩
  obtain ⟨u1, e1, F1, S1, W1⟩ := hS p q s u (D + 19) hp hq (by omega) (by omega) ok h hl h7 h8
  obtain ⟨q1, q2, q3⟩ := pG_ok hk f 3 p q s ok
  have h81 : u1 54 8 = nI q := by rw [F1.2 8 (by omega) (by omega) (by omega) (by omega) (by omega) (by omega)]; exact h8
  have h71 : u1 54 7 = nI p := by rw [F1.2 7 (by omega) (by omega) (by omega) (by omega) (by omega) (by omega)]; exact h7
  rw [pG, if_neg (show ¬ 5 ≤ 2 by omega), cl_181]
  by_cases hr : (pG B c ky f (2 + 1) p q s).1 = true
  · rw [if_pos hr, if_pos (show (2 : Nat) = 2 from rfl)]
    obtain ⟨r0, l2, r1, r2, r3, r4⟩ := q3 hr
    have R1 := S1 hr
    have hl1 : (pG B c ky f 3 p q s).2.2.2.2.1.length ≤ (pG B c ky f 3 p q s).2.2.1 := by rw [r1, List.length_append]; omega
    have hpl : ∀ (R : pS → Bool × pS) (x : pS), pLp B c R 2 1 x = if lvO (sgS B x) = 2 then (if (R (nxS B c x)).1 = true then (true, emS (20000 + sgS B x) (R (nxS B c x)).2) else (false, (R (nxS B c x)).2)) else (true, x) := fun R x => rfl
    rw [hpl]
    generalize (pG B c ky f (2 + 1) p q s).2 = x at *
    have eA := m_isSg (X := X) (d := D + 19) (g := 60) (by omega) (by omega) hc hb r0 R1
    have eB := m_isSg (X := X) (d := D + 19) (g := 61) (by omega) (by omega) hc hb r0 R1
    have eC := m_isSg (X := X) (d := D + 19) (g := 62) (by omega) (by omega) hc hb r0 R1
    by_cases hg : lvO (sgS B x) = 2
    · rw [if_pos hg]
      obtain ⟨z1, z2, z3⟩ := lv_op (ky := ky) hg (by omega)
      have h3 := sg_3 (B := B) (s := x) z3
      have hBs : sgS B x = B x.2.1 := if_pos h3
      have ho : sgS B x = 60 ∨ sgS B x = 61 ∨ sgS B x = 62 := (lvO_inv (g := sgS B x)).2.2.1 hg
      obtain ⟨n1, n2⟩ := okT_nx (B := B) (c := c) (s := x) r0.2.2.1
      have n3 := r0.2.2.2.1 h3
      have n4 := r0.2.2.1
      have hcode : (nxS B c x).2.2.2.1 = x.2.2.2.1 := rfl
      have t1 := R1.1.2.1
      have t2 := R1.1.2.2.2.2.2 x.2.1 (by omega)
      obtain ⟨u2, e2, R2, F2⟩ := m_must1 (X := X) (d := D + 16) hc hb r0 R1
      have h82 : u2 54 8 = nI q := by rw [F2.2 8 (by omega) (by omega) (by omega) (by omega) (by omega) (by omega)]; exact h81
      have h72 : u2 54 7 = nI p := by rw [F2.2 7 (by omega) (by omega) (by omega) (by omega) (by omega) (by omega)]; exact h71
      obtain ⟨u3, e3, F3, S3, W3⟩ := hS p q (nxS B c x) u2 (D + 19) hp hq (by omega) (by omega) n1 R2 (by rw [hcode]; omega) h72 h82
      obtain ⟨y1, y2, y3⟩ := pG_ok hk f 3 p q (nxS B c x) n1
      generalize hr0 : pG B c ky f (2 + 1) p q (nxS B c x) = r at *
      by_cases hr2 : r.1 = true
      · rw [if_pos hr2]
        obtain ⟨r0', l3, b1, b2, b3, b4⟩ := y3 hr2
        have hl2 : r.2.2.2.2.1.length + 1 ≤ r.2.2.1 := by
          rw [b1, List.length_append, hcode]
          omega
        obtain ⟨u4, e4, R4, F4⟩ := rM_em (X := X) (d := D + 19) (x := 20000 + sgS B x) (S3 hr2) (ok_len r0' hc hl2)
        refine ⟨u4, ?_, fR_trans F1 (fR_trans F2 (fR_trans F3 F4)), fun _ => R4, fun y => absurd rfl y⟩
        rcases ho with ho | ho | ho
        · rw [if_pos ho] at eA
          rw [if_neg (by omega)] at eB
          rw [if_neg (by omega)] at eC
          have g1 : u1 43 x.2.1 = nI 60 := by rw [t2, ← hBs, ho]
          have er : rfI (20000 + sgS B x) = -22 := by rw [ho]; rfl
          rw [er] at e4
          simp -implicitDefEqProofs (disch := first | (with_reducible first | exact rt_181 | exact na_180 | exact k_116.trans mc_180.symm | exact na_174 | exact k_116.trans mc_174.symm | exact na_173 | exact k_116.trans mc_173.symm | exact na_175 | exact k_116.trans mc_175.symm | exact c1_i | exact c1_r | exact of_eq_false nf_zGC | exact of_eq_false nf_zBA | exact of_eq_false nf_zDA | exact of_eq_false nf_zCA | exact of_eq_false nf_zBC | exact of_eq_false nf_zDC | exact of_eq_false nf_zSC | exact of_eq_false nf_zSP | exact of_eq_false nf_zLC | exact of_eq_false nf_zLB | exact of_eq_false nf_zLS | exact of_eq_false nf_zLP | exact of_eq_false nf_zTR) | omega | exact Nat.le_of_ble_eq_true rfl | ((with_reducible refine nI_ne0 ?_ ?_) <;> omega)) only [bk_181_0, tn_0, bl_al0, bl_iv1, bl_c60, bl_iv2, bl_if_ne, bl_c61, bl_c62, bl_if_eq, bk_181_31, tn_31, bf_116_4, bf_116_8, ba_zCA, ba_zTR, ba_zSP, ba_zLP, ba_18, ba_19, ba_20, ba_21, ba_83, ba_87, ba_117, ba_118, ba_119, ba_120, ba_123, ba_124, ba_125, ba_126, ba_127, ba_128, ba_129, ba_130, ba_131, ba_132, bl_ic_ne, bl_cm22, bl_goto, bk_181_50, tn_50, bl_cm23, bk_181_69, tn_69, bl_cm24, bk_181_71, tn_71, bl_is1, bl_c1, bl_il1, bk_181_86, tn_86, bl_rv, Option.bind_some, Option.bind_none, Option.toList_some, Option.toList_none, List.cons_append, List.nil_append, not_false_eq_true, not_true_eq_false, nI_10, nI_00, bI_0, bI_n0, if_true, if_false, true_and, and_true, and_false, false_and, Classical.not_not, ↓reduceIte, eq_self, Nat.reduceAdd, Nat.reduceMul, bl_nil, z_lt, z_le, z_gt, z_ge, nI_add, nI_mul, nI_sub, L_lt, L_le, L_eq, L_e0, N_ltT, N_ltF, N_leT, N_leF, N_eqT, N_eqF, gs_hit, gs_miss, e1, eA, eB, eC, t1, g1, e2, e3, e4]
        · rw [if_neg (by omega)] at eA
          rw [if_pos ho] at eB
          rw [if_neg (by omega)] at eC
          have g1 : u1 43 x.2.1 = nI 61 := by rw [t2, ← hBs, ho]
          have er : rfI (20000 + sgS B x) = -23 := by rw [ho]; rfl
          rw [er] at e4
          simp -implicitDefEqProofs (disch := first | (with_reducible first | exact rt_181 | exact na_180 | exact k_116.trans mc_180.symm | exact na_174 | exact k_116.trans mc_174.symm | exact na_173 | exact k_116.trans mc_173.symm | exact na_175 | exact k_116.trans mc_175.symm | exact c1_i | exact c1_r | exact of_eq_false nf_zGC | exact of_eq_false nf_zBA | exact of_eq_false nf_zDA | exact of_eq_false nf_zCA | exact of_eq_false nf_zBC | exact of_eq_false nf_zDC | exact of_eq_false nf_zSC | exact of_eq_false nf_zSP | exact of_eq_false nf_zLC | exact of_eq_false nf_zLB | exact of_eq_false nf_zLS | exact of_eq_false nf_zLP | exact of_eq_false nf_zTR) | omega | exact Nat.le_of_ble_eq_true rfl | ((with_reducible refine nI_ne0 ?_ ?_) <;> omega)) only [bk_181_0, tn_0, bl_al0, bl_iv1, bl_c60, bl_iv2, bl_if_ne, bl_c61, bl_c62, bl_if_eq, bk_181_31, tn_31, bf_116_4, bf_116_8, ba_zCA, ba_zTR, ba_zSP, ba_zLP, ba_18, ba_19, ba_20, ba_21, ba_83, ba_87, ba_117, ba_118, ba_119, ba_120, ba_123, ba_124, ba_125, ba_126, ba_127, ba_128, ba_129, ba_130, ba_131, ba_132, bl_ic_ne, bl_cm22, bl_goto, bk_181_50, tn_50, bl_cm23, bk_181_69, tn_69, bl_cm24, bk_181_71, tn_71, bl_is1, bl_c1, bl_il1, bk_181_86, tn_86, bl_rv, Option.bind_some, Option.bind_none, Option.toList_some, Option.toList_none, List.cons_append, List.nil_append, not_false_eq_true, not_true_eq_false, nI_10, nI_00, bI_0, bI_n0, if_true, if_false, true_and, and_true, and_false, false_and, Classical.not_not, ↓reduceIte, eq_self, Nat.reduceAdd, Nat.reduceMul, bl_nil, z_lt, z_le, z_gt, z_ge, nI_add, nI_mul, nI_sub, L_lt, L_le, L_eq, L_e0, N_ltT, N_ltF, N_leT, N_leF, N_eqT, N_eqF, gs_hit, gs_miss, e1, eA, eB, eC, t1, g1, e2, e3, e4]
        · rw [if_neg (by omega)] at eA
          rw [if_neg (by omega)] at eB
          rw [if_pos ho] at eC
          have g1 : u1 43 x.2.1 = nI 62 := by rw [t2, ← hBs, ho]
          have er : rfI (20000 + sgS B x) = -24 := by rw [ho]; rfl
          rw [er] at e4
          simp -implicitDefEqProofs (disch := first | (with_reducible first | exact rt_181 | exact na_180 | exact k_116.trans mc_180.symm | exact na_174 | exact k_116.trans mc_174.symm | exact na_173 | exact k_116.trans mc_173.symm | exact na_175 | exact k_116.trans mc_175.symm | exact c1_i | exact c1_r | exact of_eq_false nf_zGC | exact of_eq_false nf_zBA | exact of_eq_false nf_zDA | exact of_eq_false nf_zCA | exact of_eq_false nf_zBC | exact of_eq_false nf_zDC | exact of_eq_false nf_zSC | exact of_eq_false nf_zSP | exact of_eq_false nf_zLC | exact of_eq_false nf_zLB | exact of_eq_false nf_zLS | exact of_eq_false nf_zLP | exact of_eq_false nf_zTR) | omega | exact Nat.le_of_ble_eq_true rfl | ((with_reducible refine nI_ne0 ?_ ?_) <;> omega)) only [bk_181_0, tn_0, bl_al0, bl_iv1, bl_c60, bl_iv2, bl_if_ne, bl_c61, bl_c62, bl_if_eq, bk_181_31, tn_31, bf_116_4, bf_116_8, ba_zCA, ba_zTR, ba_zSP, ba_zLP, ba_18, ba_19, ba_20, ba_21, ba_83, ba_87, ba_117, ba_118, ba_119, ba_120, ba_123, ba_124, ba_125, ba_126, ba_127, ba_128, ba_129, ba_130, ba_131, ba_132, bl_ic_ne, bl_cm22, bl_goto, bk_181_50, tn_50, bl_cm23, bk_181_69, tn_69, bl_cm24, bk_181_71, tn_71, bl_is1, bl_c1, bl_il1, bk_181_86, tn_86, bl_rv, Option.bind_some, Option.bind_none, Option.toList_some, Option.toList_none, List.cons_append, List.nil_append, not_false_eq_true, not_true_eq_false, nI_10, nI_00, bI_0, bI_n0, if_true, if_false, true_and, and_true, and_false, false_and, Classical.not_not, ↓reduceIte, eq_self, Nat.reduceAdd, Nat.reduceMul, bl_nil, z_lt, z_le, z_gt, z_ge, nI_add, nI_mul, nI_sub, L_lt, L_le, L_eq, L_e0, N_ltT, N_ltF, N_leT, N_leF, N_eqT, N_eqF, gs_hit, gs_miss, e1, eA, eB, eC, t1, g1, e2, e3, e4]
      · rw [if_neg hr2]
        have V3 := W3 hr2
        have e4 := fun y => m_stepW (X := X) (d := D + 19) (x := y) V3.2
        refine ⟨u3, ?_, fR_trans F1 (fR_trans F2 F3), fun y => (by cases y), fun _ => V3⟩
        rcases ho with ho | ho | ho
        · rw [if_pos ho] at eA
          rw [if_neg (by omega)] at eB
          rw [if_neg (by omega)] at eC
          have g1 : u1 43 x.2.1 = nI 60 := by rw [t2, ← hBs, ho]
          simp -implicitDefEqProofs (disch := first | (with_reducible first | exact rt_181 | exact na_180 | exact k_116.trans mc_180.symm | exact na_174 | exact k_116.trans mc_174.symm | exact na_173 | exact k_116.trans mc_173.symm | exact na_175 | exact k_116.trans mc_175.symm | exact c1_i | exact c1_r | exact of_eq_false nf_zGC | exact of_eq_false nf_zBA | exact of_eq_false nf_zDA | exact of_eq_false nf_zCA | exact of_eq_false nf_zBC | exact of_eq_false nf_zDC | exact of_eq_false nf_zSC | exact of_eq_false nf_zSP | exact of_eq_false nf_zLC | exact of_eq_false nf_zLB | exact of_eq_false nf_zLS | exact of_eq_false nf_zLP | exact of_eq_false nf_zTR) | omega | exact Nat.le_of_ble_eq_true rfl | ((with_reducible refine nI_ne0 ?_ ?_) <;> omega)) only [bk_181_0, tn_0, bl_al0, bl_iv1, bl_c60, bl_iv2, bl_if_ne, bl_c61, bl_c62, bl_if_eq, bk_181_31, tn_31, bf_116_4, bf_116_8, ba_zCA, ba_zTR, ba_zSP, ba_zLP, ba_18, ba_19, ba_20, ba_21, ba_83, ba_87, ba_117, ba_118, ba_119, ba_120, ba_123, ba_124, ba_125, ba_126, ba_127, ba_128, ba_129, ba_130, ba_131, ba_132, bl_ic_ne, bl_cm22, bl_goto, bk_181_50, tn_50, bl_cm23, bk_181_69, tn_69, bl_cm24, bk_181_71, tn_71, bl_is1, bl_c1, bl_il1, bk_181_86, tn_86, bl_rv, Option.bind_some, Option.bind_none, Option.toList_some, Option.toList_none, List.cons_append, List.nil_append, not_false_eq_true, not_true_eq_false, nI_10, nI_00, bI_0, bI_n0, if_true, if_false, true_and, and_true, and_false, false_and, Classical.not_not, ↓reduceIte, eq_self, Nat.reduceAdd, Nat.reduceMul, bl_nil, z_lt, z_le, z_gt, z_ge, nI_add, nI_mul, nI_sub, L_lt, L_le, L_eq, L_e0, N_ltT, N_ltF, N_leT, N_leF, N_eqT, N_eqF, gs_hit, gs_miss, e1, eA, eB, eC, t1, g1, e2, e3, e4]
        · rw [if_neg (by omega)] at eA
          rw [if_pos ho] at eB
          rw [if_neg (by omega)] at eC
          have g1 : u1 43 x.2.1 = nI 61 := by rw [t2, ← hBs, ho]
          simp -implicitDefEqProofs (disch := first | (with_reducible first | exact rt_181 | exact na_180 | exact k_116.trans mc_180.symm | exact na_174 | exact k_116.trans mc_174.symm | exact na_173 | exact k_116.trans mc_173.symm | exact na_175 | exact k_116.trans mc_175.symm | exact c1_i | exact c1_r | exact of_eq_false nf_zGC | exact of_eq_false nf_zBA | exact of_eq_false nf_zDA | exact of_eq_false nf_zCA | exact of_eq_false nf_zBC | exact of_eq_false nf_zDC | exact of_eq_false nf_zSC | exact of_eq_false nf_zSP | exact of_eq_false nf_zLC | exact of_eq_false nf_zLB | exact of_eq_false nf_zLS | exact of_eq_false nf_zLP | exact of_eq_false nf_zTR) | omega | exact Nat.le_of_ble_eq_true rfl | ((with_reducible refine nI_ne0 ?_ ?_) <;> omega)) only [bk_181_0, tn_0, bl_al0, bl_iv1, bl_c60, bl_iv2, bl_if_ne, bl_c61, bl_c62, bl_if_eq, bk_181_31, tn_31, bf_116_4, bf_116_8, ba_zCA, ba_zTR, ba_zSP, ba_zLP, ba_18, ba_19, ba_20, ba_21, ba_83, ba_87, ba_117, ba_118, ba_119, ba_120, ba_123, ba_124, ba_125, ba_126, ba_127, ba_128, ba_129, ba_130, ba_131, ba_132, bl_ic_ne, bl_cm22, bl_goto, bk_181_50, tn_50, bl_cm23, bk_181_69, tn_69, bl_cm24, bk_181_71, tn_71, bl_is1, bl_c1, bl_il1, bk_181_86, tn_86, bl_rv, Option.bind_some, Option.bind_none, Option.toList_some, Option.toList_none, List.cons_append, List.nil_append, not_false_eq_true, not_true_eq_false, nI_10, nI_00, bI_0, bI_n0, if_true, if_false, true_and, and_true, and_false, false_and, Classical.not_not, ↓reduceIte, eq_self, Nat.reduceAdd, Nat.reduceMul, bl_nil, z_lt, z_le, z_gt, z_ge, nI_add, nI_mul, nI_sub, L_lt, L_le, L_eq, L_e0, N_ltT, N_ltF, N_leT, N_leF, N_eqT, N_eqF, gs_hit, gs_miss, e1, eA, eB, eC, t1, g1, e2, e3, e4]
        · rw [if_neg (by omega)] at eA
          rw [if_neg (by omega)] at eB
          rw [if_pos ho] at eC
          have g1 : u1 43 x.2.1 = nI 62 := by rw [t2, ← hBs, ho]
          simp -implicitDefEqProofs (disch := first | (with_reducible first | exact rt_181 | exact na_180 | exact k_116.trans mc_180.symm | exact na_174 | exact k_116.trans mc_174.symm | exact na_173 | exact k_116.trans mc_173.symm | exact na_175 | exact k_116.trans mc_175.symm | exact c1_i | exact c1_r | exact of_eq_false nf_zGC | exact of_eq_false nf_zBA | exact of_eq_false nf_zDA | exact of_eq_false nf_zCA | exact of_eq_false nf_zBC | exact of_eq_false nf_zDC | exact of_eq_false nf_zSC | exact of_eq_false nf_zSP | exact of_eq_false nf_zLC | exact of_eq_false nf_zLB | exact of_eq_false nf_zLS | exact of_eq_false nf_zLP | exact of_eq_false nf_zTR) | omega | exact Nat.le_of_ble_eq_true rfl | ((with_reducible refine nI_ne0 ?_ ?_) <;> omega)) only [bk_181_0, tn_0, bl_al0, bl_iv1, bl_c60, bl_iv2, bl_if_ne, bl_c61, bl_c62, bl_if_eq, bk_181_31, tn_31, bf_116_4, bf_116_8, ba_zCA, ba_zTR, ba_zSP, ba_zLP, ba_18, ba_19, ba_20, ba_21, ba_83, ba_87, ba_117, ba_118, ba_119, ba_120, ba_123, ba_124, ba_125, ba_126, ba_127, ba_128, ba_129, ba_130, ba_131, ba_132, bl_ic_ne, bl_cm22, bl_goto, bk_181_50, tn_50, bl_cm23, bk_181_69, tn_69, bl_cm24, bk_181_71, tn_71, bl_is1, bl_c1, bl_il1, bk_181_86, tn_86, bl_rv, Option.bind_some, Option.bind_none, Option.toList_some, Option.toList_none, List.cons_append, List.nil_append, not_false_eq_true, not_true_eq_false, nI_10, nI_00, bI_0, bI_n0, if_true, if_false, true_and, and_true, and_false, false_and, Classical.not_not, ↓reduceIte, eq_self, Nat.reduceAdd, Nat.reduceMul, bl_nil, z_lt, z_le, z_gt, z_ge, nI_add, nI_mul, nI_sub, L_lt, L_le, L_eq, L_e0, N_ltT, N_ltF, N_leT, N_leF, N_eqT, N_eqF, gs_hit, gs_miss, e1, eA, eB, eC, t1, g1, e2, e3, e4]
    · rw [if_neg hg]
      have hA : ¬ sgS B x = 60 := fun y => hg (by rw [y]; rfl)
      have hB : ¬ sgS B x = 61 := fun y => hg (by rw [y]; rfl)
      have hC : ¬ sgS B x = 62 := fun y => hg (by rw [y]; rfl)
      rw [if_neg hA] at eA
      rw [if_neg hB] at eB
      rw [if_neg hC] at eC
      refine ⟨u1, ?_, F1, fun _ => R1, fun y => absurd rfl y⟩
      simp -implicitDefEqProofs (disch := first | (with_reducible first | exact rt_181 | exact na_180 | exact k_116.trans mc_180.symm | exact na_174 | exact k_116.trans mc_174.symm | exact na_173 | exact k_116.trans mc_173.symm | exact na_175 | exact k_116.trans mc_175.symm | exact c1_i | exact c1_r | exact of_eq_false nf_zGC | exact of_eq_false nf_zBA | exact of_eq_false nf_zDA | exact of_eq_false nf_zCA | exact of_eq_false nf_zBC | exact of_eq_false nf_zDC | exact of_eq_false nf_zSC | exact of_eq_false nf_zSP | exact of_eq_false nf_zLC | exact of_eq_false nf_zLB | exact of_eq_false nf_zLS | exact of_eq_false nf_zLP | exact of_eq_false nf_zTR) | omega | exact Nat.le_of_ble_eq_true rfl | ((with_reducible refine nI_ne0 ?_ ?_) <;> omega)) only [bk_181_0, tn_0, bl_al0, bl_iv1, bl_c60, bl_iv2, bl_if_ne, bl_c61, bl_c62, bl_if_eq, bk_181_31, tn_31, bf_116_4, bf_116_8, ba_zCA, ba_zTR, ba_zSP, ba_zLP, ba_18, ba_19, ba_20, ba_21, ba_83, ba_87, ba_117, ba_118, ba_119, ba_120, ba_123, ba_124, ba_125, ba_126, ba_127, ba_128, ba_129, ba_130, ba_131, ba_132, bl_ic_ne, bl_cm22, bl_goto, bk_181_50, tn_50, bl_cm23, bk_181_69, tn_69, bl_cm24, bk_181_71, tn_71, bl_is1, bl_c1, bl_il1, bk_181_86, tn_86, bl_rv, Option.bind_some, Option.bind_none, Option.toList_some, Option.toList_none, List.cons_append, List.nil_append, not_false_eq_true, not_true_eq_false, nI_10, nI_00, bI_0, bI_n0, if_true, if_false, true_and, and_true, and_false, false_and, Classical.not_not, ↓reduceIte, eq_self, Nat.reduceAdd, Nat.reduceMul, bl_nil, z_lt, z_le, z_gt, z_ge, nI_add, nI_mul, nI_sub, L_lt, L_le, L_eq, L_e0, N_ltT, N_ltF, N_leT, N_leF, N_eqT, N_eqF, gs_hit, gs_miss, e1, eA, eB, eC]
  · rw [if_neg hr]
    have W3 := W1 hr
    have e4 := fun y => m_isSgW (X := X) (d := D + 19) (x := y) W3.2
    refine ⟨u1, ?_, F1, fun y => (by cases y), fun _ => W3⟩
    simp -implicitDefEqProofs (disch := first | (with_reducible first | exact rt_181 | exact na_180 | exact k_116.trans mc_180.symm | exact na_174 | exact k_116.trans mc_174.symm | exact na_173 | exact k_116.trans mc_173.symm | exact na_175 | exact k_116.trans mc_175.symm | exact c1_i | exact c1_r | exact of_eq_false nf_zGC | exact of_eq_false nf_zBA | exact of_eq_false nf_zDA | exact of_eq_false nf_zCA | exact of_eq_false nf_zBC | exact of_eq_false nf_zDC | exact of_eq_false nf_zSC | exact of_eq_false nf_zSP | exact of_eq_false nf_zLC | exact of_eq_false nf_zLB | exact of_eq_false nf_zLS | exact of_eq_false nf_zLP | exact of_eq_false nf_zTR) | omega | exact Nat.le_of_ble_eq_true rfl | ((with_reducible refine nI_ne0 ?_ ?_) <;> omega)) only [bk_181_0, tn_0, bl_al0, bl_iv1, bl_c60, bl_iv2, bl_if_ne, bl_c61, bl_c62, bl_if_eq, bk_181_31, tn_31, bf_116_4, bf_116_8, ba_zCA, ba_zTR, ba_zSP, ba_zLP, ba_18, ba_19, ba_20, ba_21, ba_83, ba_87, ba_117, ba_118, ba_119, ba_120, ba_123, ba_124, ba_125, ba_126, ba_127, ba_128, ba_129, ba_130, ba_131, ba_132, bl_ic_ne, bl_cm22, bl_goto, bk_181_50, tn_50, bl_cm23, bk_181_69, tn_69, bl_cm24, bk_181_71, tn_71, bl_is1, bl_c1, bl_il1, bk_181_86, tn_86, bl_rv, Option.bind_some, Option.bind_none, Option.toList_some, Option.toList_none, List.cons_append, List.nil_append, not_false_eq_true, not_true_eq_false, nI_10, nI_00, bI_0, bI_n0, if_true, if_false, true_and, and_true, and_false, false_and, Classical.not_not, ↓reduceIte, eq_self, Nat.reduceAdd, Nat.reduceMul, bl_nil, z_lt, z_le, z_gt, z_ge, nI_add, nI_mul, nI_sub, L_lt, L_le, L_eq, L_e0, N_ltT, N_ltF, N_leT, N_leF, N_eqT, N_eqF, gs_hit, gs_miss, e1, e4]
theorem m_all (hk : ky < 3) (hc : c ≤ 96) (hb : ∀ k, B k < 256) : ∀ f, mR X B c ky f 5 177 ∧ mR X B c ky f 4 179 ∧ mR X B c ky f 3 180 ∧ mR X B c ky f 2 181 ∧ mR X B c ky f 1 182 ∧ mR X B c ky f 0 183 := by
  intro f
  induction f with
  | zero => exact ⟨fun p q s u D _ _ hf => by omega, fun p q s u D _ _ hf => by omega, fun p q s u D _ _ hf => by omega, fun p q s u D _ _ hf => by omega, fun p q s u D _ _ hf => by omega, fun p q s u D _ _ hf => by omega⟩
  | succ f ih =>
    obtain ⟨h5, h4, h3, h2, h1, h0⟩ := ih
    exact ⟨m_pcS hk hc hb h5 h0, m_tmS hk hc hb h5, m_smS hk hc hb h4, m_tsS hk hc hb h3, m_anS hk hc hb h2, m_orS hk hc hb h1⟩
end C37
