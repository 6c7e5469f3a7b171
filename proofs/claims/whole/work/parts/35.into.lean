-- the class's reader, whole; the reference's tape
def wdb (B : Nat → Nat) (s : pS) (k : Nat) : Bool := decide (s.1 = 1) && decide (s.2.2.1 - s.2.1 = slen k) && mtI B s.2.1 k (slen k) 0
theorem wdb_ok {B : Nat → Nat} {s : pS} {k : Nat} : wdb B s k = true ↔ wdB B s k := by
  unfold wdb wdB
  rw [Bool.and_eq_true, Bool.and_eq_true, decide_eq_true_eq, decide_eq_true_eq, and_assoc]
def s0T (B : Nat → Nat) (c : Nat) : pS := nxS B c (0, 0, 0, [], 0)
def kyT (B : Nat → Nat) (c : Nat) : Nat := if wdb B (s0T B c) 1 = true then 0 else if wdb B (s0T B c) 3 = true then 1 else if wdb B (s0T B c) 5 = true then 2 else 3
def rT (B : Nat → Nat) (c : Nat) : Bool × pS := pG B c (kyT B c) 118 0 0 0 (nxS B c (s0T B c))
def undT (B : Nat → Nat) (c : Nat) : Bool := decide (kyT B c < 3) && ((rT B c).1 && decide ((rT B c).2.1 = 0))
def fltT (B : Nat → Nat) (c : Nat) : Nat := if kyT B c < 3 then (rT B c).2.2.1 else (s0T B c).2.1
def fI (t : Nat) (u u' : gt_M) : Prop := (∀ b, b ≠ 3 → b ≠ 4 → b ≠ 5 → b ≠ 7 → b ≠ 9 → b ≠ 21 + t → u' b = u b) ∧ (∀ o, o ≠ t → u' 3 o = u 3 o ∧ u' 4 o = u 4 o ∧ u' 5 o = u 5 o)
theorem fI_C {t : Nat} {u u' : gt_M} (h : fC t u u') : fI t u u' := ⟨fun b h1 h2 h3 h4 h5 h6 => h.1 b h1 h3 h4 h6, fun o ho => ⟨h.2.1 o ho, by rw [h.1 4 (by omega) (by omega) (by omega) (by omega)], h.2.2 o ho⟩⟩
theorem fI_trans {t : Nat} {u u' u'' : gt_M} (h : fI t u u') (k : fI t u' u'') : fI t u u'' := ⟨fun b h1 h2 h3 h4 h5 h6 => by rw [k.1 b h1 h2 h3 h4 h5 h6, h.1 b h1 h2 h3 h4 h5 h6], fun o ho => by
  obtain ⟨a1, a2, a3⟩ := k.2 o ho
  obtain ⟨b1, b2, b3⟩ := h.2 o ho
  exact ⟨a1.trans b1, a2.trans b2, a3.trans b3⟩⟩
theorem hd_nI {a b : Nat} (h : a ≤ b) (hb : b < 2147483648) : hdI (nI a) (nI b) = nI a := by
  have e1 := L_lt (a := b) (b := a) (by omega) (by omega)
  have e2 := L_lt (a := 0) (b := a) (by omega) (by omega)
  have m1 : mnI (nI a) (nI b) = nI a := by
    unfold mnI
    exact if_neg (fun y => by rw [e1] at y; omega)
  unfold hdI
  rw [m1]
  unfold mxI
  by_cases c : 0 < a
  · exact if_pos (by rw [e2]; exact c)
  · rw [show a = 0 by omega]
    exact if_neg (fun y => by rw [L_lt (by omega) (by omega)] at y; omega)
section C35
variable {X : List Int32} {d c t ky : Nat} {u : gt_M} {B : Nat → Nat} {h : gm_H} {s : pS}
theorem c_word1 {k a st e : Nat} (hw : wdb B (a, st, e, [], 0) k = true) (hk : k < 7) (hc : c ≤ 96) (h0 : u 7 0 = nI c) (h1 : u 7 1 = nI a) (ha : a ≤ 4) (h2 : u 7 2 = nI st) (h3 : u 7 3 = nI e) (hst : st ≤ e) (he : e ≤ c) (hB : ∀ k, k < c → u 8 k = nI (B k)) (hb : ∀ k, B k < 256) : gm_cl' X (d + 4) 49 [.ref 82, .ref (10030 + k)] (gt_h u) = some (some (.int (nI 1)), gt_h u) := by
  haveI := Classical.propDecidable (wdB B (a, st, e, [], 0) k)
  have q := c_word (X := X) (d := d) (l := []) (v := 0) hk hc h0 h1 ha h2 h3 hst he hB hb
  rw [if_pos (wdb_ok.mp hw)] at q
  exact q
theorem c_word0 {k a st e : Nat} (hw : ¬ wdb B (a, st, e, [], 0) k = true) (hk : k < 7) (hc : c ≤ 96) (h0 : u 7 0 = nI c) (h1 : u 7 1 = nI a) (ha : a ≤ 4) (h2 : u 7 2 = nI st) (h3 : u 7 3 = nI e) (hst : st ≤ e) (he : e ≤ c) (hB : ∀ k, k < c → u 8 k = nI (B k)) (hb : ∀ k, B k < 256) : gm_cl' X (d + 4) 49 [.ref 82, .ref (10030 + k)] (gt_h u) = some (some (.int (nI 0)), gt_h u) := by
  haveI := Classical.propDecidable (wdB B (a, st, e, [], 0) k)
  have q := c_word (X := X) (d := d) (l := []) (v := 0) hk hc h0 h1 ha h2 h3 hst he hB hb
  rw [if_neg (fun y => hw (wdb_ok.mpr y))] at q
  exact q
theorem c_rewind (hc : c ≤ 96) (h0 : u 7 0 = nI c) (hB : ∀ k, k < c → u 8 k = nI (B k)) (hb : ∀ k, B k < 256) : gm_cl' X (d + 3) 42 [.ref 82] (gt_h u) = some (none, gt_h (tkS (gt_set (gt_set u 7 1 (nI 0)) 7 3 (nI 0)) (nxT B c 0 0))) := by
  have e := c_step (X := X) (d := d) (u := gt_set (gt_set u 7 1 (nI 0)) 7 3 (nI 0)) (a := 0) (e := 0) hc (by rw [gs_miss (by omega), gs_miss (by omega)]; exact h0) (by rw [gs_miss (by omega), gt_set_eq]) (by omega) gt_set_eq (by omega) (fun k hk => by rw [gs_rowne (by omega), gs_rowne (by omega)]; exact hB k hk) hb
  rw [cl_42]
  simp -implicitDefEqProofs (disch := first | (with_reducible first | exact rt_42 | exact na_43 | exact k_82.trans mc_43.symm | exact c1_i | exact c1_r | exact of_eq_false nf_zGC | exact of_eq_false nf_zBA | exact of_eq_false nf_zDA | exact of_eq_false nf_zCA | exact of_eq_false nf_zBC | exact of_eq_false nf_zDC | exact of_eq_false nf_zSC | exact of_eq_false nf_zSP | exact of_eq_false nf_zLC | exact of_eq_false nf_zLB | exact of_eq_false nf_zLS | exact of_eq_false nf_zLP | exact of_eq_false nf_zTR) | omega | exact Nat.le_of_ble_eq_true rfl | ((with_reducible refine nI_ne0 ?_ ?_) <;> omega)) only [bk_42_0, tn_0, bl_al0, bl_c0, bpf_82_2, bpf_82_4, bl_iv1, bl_rv, Option.bind_some, Option.bind_none, Option.toList_some, Option.toList_none, List.cons_append, List.nil_append, not_false_eq_true, not_true_eq_false, nI_10, nI_00, bI_0, bI_n0, if_true, if_false, true_and, and_true, and_false, false_and, Classical.not_not, ↓reduceIte, eq_self, Nat.reduceAdd, Nat.reduceMul, bl_nil, z_lt, z_le, z_gt, z_ge, nI_add, nI_mul, nI_sub, L_lt, L_le, L_eq, L_e0, N_ltT, N_ltF, N_leT, N_leF, N_eqT, N_eqF, gs_hit, gs_miss, e]
theorem c_begT {x y : Int32} (ht : t < 15) : gm_cl' X d 51 [.ref 1, .int (nI t), .int x] (gt_h u) = some (none, gt_h (gt_set (gt_set (gt_set u 4 t x) 3 t (nI 0)) 5 t (nI 0))) := by
  rw [cl_51]
  simp -implicitDefEqProofs (disch := first | (with_reducible first | exact rt_51 | exact c1_i | exact c1_r | exact of_eq_false nf_zGC | exact of_eq_false nf_zBA | exact of_eq_false nf_zDA | exact of_eq_false nf_zCA | exact of_eq_false nf_zBC | exact of_eq_false nf_zDC | exact of_eq_false nf_zSC | exact of_eq_false nf_zSP | exact of_eq_false nf_zLC | exact of_eq_false nf_zLB | exact of_eq_false nf_zLS | exact of_eq_false nf_zLP | exact of_eq_false nf_zTR) | omega | exact Nat.le_of_ble_eq_true rfl | ((with_reducible refine nI_ne0 ?_ ?_) <;> omega)) only [bk_51_0, tn_0, bl_al0, bf_1_2, bl_il1, bl_il2, bw_zCA, bw_zTR, bw_zSP, bw_zLP, bw_18, bw_19, bw_20, bw_21, bw_83, bw_87, bw_117, bw_118, bw_119, bw_120, bw_123, bw_124, bw_125, bw_126, bw_127, bw_128, bw_129, bw_130, bw_131, bw_132, bf_1_1, bl_c0, bf_1_3, bl_rv, Option.bind_some, Option.bind_none, Option.toList_some, Option.toList_none, List.cons_append, List.nil_append, not_false_eq_true, not_true_eq_false, nI_10, nI_00, bI_0, bI_n0, if_true, if_false, true_and, and_true, and_false, false_and, Classical.not_not, ↓reduceIte, eq_self, Nat.reduceAdd, Nat.reduceMul, bl_nil, z_lt, z_le, z_gt, z_ge, nI_add, nI_mul, nI_sub, L_lt, L_le, L_eq, L_e0, N_ltT, N_ltF, N_leT, N_leF, N_eqT, N_eqF, gs_hit, gs_miss]
theorem c_begin (hk : ky < 3) (ht : t < 15) (hc : c ≤ 96) (hb : ∀ k, B k < 256) (ok : okT B c s) (h4 : s.1 ≠ 4) (hcode : s.2.2.2.1 = []) (hlv : s.2.2.2.2 = 0) (h0 : u 7 0 = nI c) (h1 : u 7 1 = nI s.1) (h2 : u 7 2 = nI s.2.1) (h3 : u 7 3 = nI s.2.2.1) (hB : ∀ k, k < c → u 8 k = nI (B k)) (h9 : u 9 0 = nI t) : ∃ u', gm_cl' X (d + 3) 28 [.ref 84, .int (nI ky), .ref (10030 + (2 * ky + 2))] (gt_h u) = some (none, gt_h u') ∧ rC B c t ky u' (nxS B c s) ∧ u' 4 t = nI ky ∧ fI t u u' := by
  have hR : rC B c t ky (gt_set (gt_set (gt_set (gt_set u 4 t (nI ky)) 3 t (nI 0)) 5 t (nI 0)) 9 1 (nI (2 * ky + 2))) s := by
    refine ⟨?_, ?_, ?_, ?_, fun k hk => ?_, ?_, ?_, ?_, fun j hj => ?_, ?_⟩
    · rw [gs_rowne (by omega), gs_rowne (by omega), gs_rowne (by omega), gs_rowne (by omega)]; exact h0
    · rw [gs_rowne (by omega), gs_rowne (by omega), gs_rowne (by omega), gs_rowne (by omega)]; exact h1
    · rw [gs_rowne (by omega), gs_rowne (by omega), gs_rowne (by omega), gs_rowne (by omega)]; exact h2
    · rw [gs_rowne (by omega), gs_rowne (by omega), gs_rowne (by omega), gs_rowne (by omega)]; exact h3
    · rw [gs_rowne (by omega), gs_rowne (by omega), gs_rowne (by omega), gs_rowne (by omega)]; exact hB k hk
    · rw [gs_miss (by omega), gs_rowne (by omega), gs_rowne (by omega), gs_rowne (by omega)]; exact h9
    · rw [gt_set_eq]
    · rw [gs_rowne (by omega), gs_rowne (by omega), gt_set_eq, hcode]; rfl
    · rw [hcode] at hj
      exact absurd hj (Nat.not_lt_zero _)
    · rw [gs_rowne (by omega), gt_set_eq, hlv]
  obtain ⟨u', e, R, F⟩ := rC_step (X := X) (d := d) hc hb ok h4 hR
  refine ⟨u', ?_, R, ?_, fI_trans ⟨fun b a1 a2 a3 a4 a5 a6 => ?_, fun o ho => ⟨?_, ?_, ?_⟩⟩ (fI_C F)⟩
  · have e1 := c_begT (X := X) (d := d + 2) (u := u) (x := nI ky) (y := nI 0) ht
    rw [cl_28]
    simp -implicitDefEqProofs (disch := first | (with_reducible first | exact rt_28 | exact na_51 | exact k_1.trans mc_51.symm | exact na_43 | exact k_82.trans mc_43.symm | exact c1_i | exact c1_r | exact of_eq_false nf_zGC | exact of_eq_false nf_zBA | exact of_eq_false nf_zDA | exact of_eq_false nf_zCA | exact of_eq_false nf_zBC | exact of_eq_false nf_zDC | exact of_eq_false nf_zSC | exact of_eq_false nf_zSP | exact of_eq_false nf_zLC | exact of_eq_false nf_zLB | exact of_eq_false nf_zLS | exact of_eq_false nf_zLP | exact of_eq_false nf_zTR) | omega | exact Nat.le_of_ble_eq_true rfl | ((with_reducible refine nI_ne0 ?_ ?_) <;> omega)) only [bk_28_0, tn_0, bl_al0, bf_84_1, bf_84_2, bl_il1, bl_iv3, bl_al2, bpf_84_3, bf_84_0, bl_iv1, bl_rv, Option.bind_some, Option.bind_none, Option.toList_some, Option.toList_none, List.cons_append, List.nil_append, not_false_eq_true, not_true_eq_false, nI_10, nI_00, bI_0, bI_n0, if_true, if_false, true_and, and_true, and_false, false_and, Classical.not_not, ↓reduceIte, eq_self, Nat.reduceAdd, Nat.reduceMul, bl_nil, z_lt, z_le, z_gt, z_ge, nI_add, nI_mul, nI_sub, L_lt, L_le, L_eq, L_e0, N_ltT, N_ltF, N_leT, N_leF, N_eqT, N_eqF, gs_hit, gs_miss, h9, e1, e]
  · rw [F.1 4 (by omega) (by omega) (by omega) (by omega), gs_rowne (by omega), gs_rowne (by omega), gs_rowne (by omega), gt_set_eq]
  · rw [gs_rowne a5, gs_rowne a3, gs_rowne a1, gs_rowne a2]
  · rw [gs_rowne (by omega), gs_rowne (by omega), gs_miss (by omega), gs_rowne (by omega)]
  · rw [gs_rowne (by omega), gs_rowne (by omega), gs_rowne (by omega), gs_miss (by omega)]
  · rw [gs_rowne (by omega), gs_miss (by omega), gs_rowne (by omega), gs_rowne (by omega)]
theorem c_intoB {cc : Nat} {v1 : Value} (hk : kyT B c = ky) (hky : ky < 3) (hcc : cc ≤ 14) (hc : c ≤ 96) (hb : ∀ k, B k < 256) (hR : rC B c cc ky u (nxS B c (s0T B c))) (h4 : u 4 cc = nI ky) : ∃ u', gm_ev X (d + 150) 27 85 [.ref 84, v1] [] (gt_h u) = some (some (.int (if undT B c = true then nI 1 else nI 0)), gt_h u') ∧ u' 7 2 = nI (fltT B c) ∧ u' 7 0 = nI c ∧ rC B c cc ky u' (rT B c).2 ∧ u' 4 cc = nI ky ∧ fI cc u u' := by
  have ok0 : okT B c (s0T B c) := (okT_nx (B := B) (c := c) (s := (0, 0, 0, [], 0)) (Nat.zero_le _)).1
  obtain ⟨n1, n2⟩ := okT_nx (B := B) (c := c) (s := s0T B c) ok0.2.2.1
  obtain ⟨u', e, R, F⟩ := (c_all (X := X) hky hc (show cc < 15 by omega) hb 118).2 0 0 0 (nxS B c (s0T B c)) u (d + 149) (by omega) (by omega) (by omega) (by omega) (by omega) n1 hR (by
    have : (nxS B c (s0T B c)).2.2.2.1 = [] := rfl
    rw [this]
    exact Nat.zero_le _)
  have er : rT B c = pG B c ky 118 0 0 0 (nxS B c (s0T B c)) := by unfold rT; rw [hk]
  have eu : undT B c = ((rT B c).1 && decide ((rT B c).2.1 = 0)) := by unfold undT; rw [hk, decide_eq_true hky, Bool.true_and]
  have ef : fltT B c = (rT B c).2.2.1 := by unfold fltT; rw [hk, if_pos hky]
  obtain ⟨q1, _, _⟩ := pG_ok hky 118 0 0 0 _ n1
  rw [← er] at e R q1
  rw [eu, ef]
  refine ⟨u', ?_, R.2.2.1, R.1, R, by rw [F.1 4 (by omega) (by omega) (by omega) (by omega)]; exact h4, fI_C F⟩
  generalize rT B c = r at *
  have h71 := R.2.1
  have q4 := q1.1
  rw [bk_27_85]
  by_cases hr : r.1 = true
  · rw [if_pos hr] at e
    by_cases h0 : r.2.1 = 0
    · rw [hr, decide_eq_true h0, if_pos (show (true && true) = true from rfl)]
      simp -implicitDefEqProofs (disch := first | (with_reducible first | exact rt_27 | exact na_108 | exact na_42 | exact k_82.trans mc_42.symm | exact na_49 | exact k_82.trans mc_49.symm | exact na_28 | exact k_84.trans mc_28.symm | exact na_29 | exact k_84.trans mc_29.symm | exact c1_i | exact c1_r | exact of_eq_false nf_zGC | exact of_eq_false nf_zBA | exact of_eq_false nf_zDA | exact of_eq_false nf_zCA | exact of_eq_false nf_zBC | exact of_eq_false nf_zDC | exact of_eq_false nf_zSC | exact of_eq_false nf_zSP | exact of_eq_false nf_zLC | exact of_eq_false nf_zLB | exact of_eq_false nf_zLS | exact of_eq_false nf_zLP | exact of_eq_false nf_zTR) | ((with_reducible refine of_eq_false (nf_S ?_)) <;> omega) | omega | exact Nat.le_of_ble_eq_true rfl | ((with_reducible refine nI_ne0 ?_ ?_) <;> omega)) only [bk_27_0, tn_0, bl_al0, bl_il1, bl_c14, bl_ii_2, bpf_84_2, bf_84_0, bl_iv1, bl_s1, bl_iv2, bl_if_eq, bl_c0, bl_s2, bl_iv3, bl_goto, bk_27_39, tn_39, bl_s3, bl_c1, bl_s4, bk_27_61, tn_61, bl_s5, bl_c2, bl_s6, bk_27_83, tn_83, bl_ri, bl_rz, bl_rz1, bl_rz0, tn_85, bl_iv4, bf_82_2, bl_if_ne, bk_27_109, tn_109, bk_27_110, tn_110, Option.bind_some, Option.bind_none, Option.toList_some, Option.toList_none, List.cons_append, List.nil_append, not_false_eq_true, not_true_eq_false, nI_10, nI_00, bI_0, bI_n0, if_true, if_false, true_and, and_true, and_false, false_and, Classical.not_not, ↓reduceIte, eq_self, Nat.reduceAdd, Nat.reduceMul, bl_nil, z_lt, z_le, z_gt, z_ge, nI_add, nI_mul, nI_sub, L_lt, L_le, L_eq, L_e0, N_ltT, N_ltF, N_leT, N_leF, N_eqT, N_eqF, gs_hit, gs_miss, e, h71, h0]
    · rw [hr, decide_eq_false h0, if_neg (show ¬ ((true && false) = true) by decide)]
      simp -implicitDefEqProofs (disch := first | (with_reducible first | exact rt_27 | exact na_108 | exact na_42 | exact k_82.trans mc_42.symm | exact na_49 | exact k_82.trans mc_49.symm | exact na_28 | exact k_84.trans mc_28.symm | exact na_29 | exact k_84.trans mc_29.symm | exact c1_i | exact c1_r | exact of_eq_false nf_zGC | exact of_eq_false nf_zBA | exact of_eq_false nf_zDA | exact of_eq_false nf_zCA | exact of_eq_false nf_zBC | exact of_eq_false nf_zDC | exact of_eq_false nf_zSC | exact of_eq_false nf_zSP | exact of_eq_false nf_zLC | exact of_eq_false nf_zLB | exact of_eq_false nf_zLS | exact of_eq_false nf_zLP | exact of_eq_false nf_zTR) | ((with_reducible refine of_eq_false (nf_S ?_)) <;> omega) | omega | exact Nat.le_of_ble_eq_true rfl | ((with_reducible refine nI_ne0 ?_ ?_) <;> omega)) only [bk_27_0, tn_0, bl_al0, bl_il1, bl_c14, bl_ii_2, bpf_84_2, bf_84_0, bl_iv1, bl_s1, bl_iv2, bl_if_eq, bl_c0, bl_s2, bl_iv3, bl_goto, bk_27_39, tn_39, bl_s3, bl_c1, bl_s4, bk_27_61, tn_61, bl_s5, bl_c2, bl_s6, bk_27_83, tn_83, bl_ri, bl_rz, bl_rz1, bl_rz0, tn_85, bl_iv4, bf_82_2, bl_if_ne, bk_27_109, tn_109, bk_27_110, tn_110, Option.bind_some, Option.bind_none, Option.toList_some, Option.toList_none, List.cons_append, List.nil_append, not_false_eq_true, not_true_eq_false, nI_10, nI_00, bI_0, bI_n0, if_true, if_false, true_and, and_true, and_false, false_and, Classical.not_not, ↓reduceIte, eq_self, Nat.reduceAdd, Nat.reduceMul, bl_nil, z_lt, z_le, z_gt, z_ge, nI_add, nI_mul, nI_sub, L_lt, L_le, L_eq, L_e0, N_ltT, N_ltF, N_leT, N_leF, N_eqT, N_eqF, gs_hit, gs_miss, e, h71, h0]
  · rw [if_neg hr] at e
    have hr2 : r.1 = false := by cases h : r.1 <;> simp_all
    rw [hr2, Bool.false_and, if_neg (show ¬ (false = true) by decide)]
    simp -implicitDefEqProofs (disch := first | (with_reducible first | exact rt_27 | exact na_108 | exact na_42 | exact k_82.trans mc_42.symm | exact na_49 | exact k_82.trans mc_49.symm | exact na_28 | exact k_84.trans mc_28.symm | exact na_29 | exact k_84.trans mc_29.symm | exact c1_i | exact c1_r | exact of_eq_false nf_zGC | exact of_eq_false nf_zBA | exact of_eq_false nf_zDA | exact of_eq_false nf_zCA | exact of_eq_false nf_zBC | exact of_eq_false nf_zDC | exact of_eq_false nf_zSC | exact of_eq_false nf_zSP | exact of_eq_false nf_zLC | exact of_eq_false nf_zLB | exact of_eq_false nf_zLS | exact of_eq_false nf_zLP | exact of_eq_false nf_zTR) | ((with_reducible refine of_eq_false (nf_S ?_)) <;> omega) | omega | exact Nat.le_of_ble_eq_true rfl | ((with_reducible refine nI_ne0 ?_ ?_) <;> omega)) only [bk_27_0, tn_0, bl_al0, bl_il1, bl_c14, bl_ii_2, bpf_84_2, bf_84_0, bl_iv1, bl_s1, bl_iv2, bl_if_eq, bl_c0, bl_s2, bl_iv3, bl_goto, bk_27_39, tn_39, bl_s3, bl_c1, bl_s4, bk_27_61, tn_61, bl_s5, bl_c2, bl_s6, bk_27_83, tn_83, bl_ri, bl_rz, bl_rz1, bl_rz0, tn_85, bl_iv4, bf_82_2, bl_if_ne, bk_27_109, tn_109, bk_27_110, tn_110, Option.bind_some, Option.bind_none, Option.toList_some, Option.toList_none, List.cons_append, List.nil_append, not_false_eq_true, not_true_eq_false, nI_10, nI_00, bI_0, bI_n0, if_true, if_false, true_and, and_true, and_false, false_and, Classical.not_not, ↓reduceIte, eq_self, Nat.reduceAdd, Nat.reduceMul, bl_nil, z_lt, z_le, z_gt, z_ge, nI_add, nI_mul, nI_sub, L_lt, L_le, L_eq, L_e0, N_ltT, N_ltF, N_leT, N_leF, N_eqT, N_eqF, gs_hit, gs_miss, e]
theorem c_into {cc : Nat} (hcc : cc ≤ 14) (hc : c ≤ 96) (hb : ∀ k, B k < 256) (h0 : u 7 0 = nI c) (hB : ∀ k, k < c → u 8 k = nI (B k)) : ∃ u', gm_cl' X (d + 150) 27 [.ref 84, .int (nI cc)] (gt_h u) = some (some (.int (if undT B c = true then nI 1 else nI 0)), gt_h u') ∧ u' 7 2 = nI (fltT B c) ∧ u' 7 0 = nI c ∧ (kyT B c < 3 → rC B c cc (kyT B c) u' (rT B c).2 ∧ u' 4 cc = nI (kyT B c)) ∧ fI cc u u' := by
  have ehd := hd_nI (a := cc) (b := 14) hcc (by omega)
  have ok0 : okT B c (s0T B c) := (okT_nx (B := B) (c := c) (s := (0, 0, 0, [], 0)) (Nat.zero_le _)).1
  have e1 := c_rewind (X := X) (d := d + 146) (u := gt_set u 9 0 (nI cc)) (B := B) (c := c) hc (by rw [gs_rowne (by omega)]; exact h0) (fun k hk => by rw [gs_rowne (by omega)]; exact hB k hk) hb
  have F0 : fI cc u (tkS (gt_set (gt_set (gt_set u 9 0 (nI cc)) 7 1 (nI 0)) 7 3 (nI 0)) (nxT B c 0 0)) := by
    unfold tkS
    refine ⟨fun b a1 a2 a3 a4 a5 a6 => ?_, fun o ho => ⟨?_, ?_, ?_⟩⟩
    · rw [gs_rowne a4, gs_rowne a4, gs_rowne a4, gs_rowne a4, gs_rowne a4, gs_rowne a5]
    · rw [gs_rowne (by omega), gs_rowne (by omega), gs_rowne (by omega), gs_rowne (by omega), gs_rowne (by omega), gs_rowne (by omega)]
    · rw [gs_rowne (by omega), gs_rowne (by omega), gs_rowne (by omega), gs_rowne (by omega), gs_rowne (by omega), gs_rowne (by omega)]
    · rw [gs_rowne (by omega), gs_rowne (by omega), gs_rowne (by omega), gs_rowne (by omega), gs_rowne (by omega), gs_rowne (by omega)]
  have g70 : tkS (gt_set (gt_set (gt_set u 9 0 (nI cc)) 7 1 (nI 0)) 7 3 (nI 0)) (nxT B c 0 0) 7 0 = nI c := by
    unfold tkS
    rw [gs_miss (by omega), gs_miss (by omega), gs_miss (by omega), gs_miss (by omega), gs_miss (by omega), gs_rowne (by omega)]; exact h0
  have g71 : tkS (gt_set (gt_set (gt_set u 9 0 (nI cc)) 7 1 (nI 0)) 7 3 (nI 0)) (nxT B c 0 0) 7 1 = nI (s0T B c).1 := by
    unfold tkS
    rw [gs_miss (by omega), gt_set_eq]; rfl
  have g72 : tkS (gt_set (gt_set (gt_set u 9 0 (nI cc)) 7 1 (nI 0)) 7 3 (nI 0)) (nxT B c 0 0) 7 2 = nI (s0T B c).2.1 := by
    unfold tkS
    rw [gs_miss (by omega), gs_miss (by omega), gt_set_eq]; rfl
  have g73 : tkS (gt_set (gt_set (gt_set u 9 0 (nI cc)) 7 1 (nI 0)) 7 3 (nI 0)) (nxT B c 0 0) 7 3 = nI (s0T B c).2.2.1 := by
    unfold tkS
    rw [gt_set_eq]; rfl
  have g8 : ∀ k, k < c → tkS (gt_set (gt_set (gt_set u 9 0 (nI cc)) 7 1 (nI 0)) 7 3 (nI 0)) (nxT B c 0 0) 8 k = nI (B k) := fun k hk => by
    rw [F0.1 8 (by omega) (by omega) (by omega) (by omega) (by omega) (by omega)]
    exact hB k hk
  have g9 : tkS (gt_set (gt_set (gt_set u 9 0 (nI cc)) 7 1 (nI 0)) 7 3 (nI 0)) (nxT B c 0 0) 9 0 = nI cc := by
    unfold tkS
    rw [gs_rowne (by omega), gs_rowne (by omega), gs_rowne (by omega), gs_rowne (by omega), gs_rowne (by omega), gt_set_eq]
  generalize tkS (gt_set (gt_set (gt_set u 9 0 (nI cc)) 7 1 (nI 0)) 7 3 (nI 0)) (nxT B c 0 0) = u1 at *
  have hT : s0T B c = ((s0T B c).1, (s0T B c).2.1, (s0T B c).2.2.1, [], 0) := rfl
  have W1 := fun (k : Nat) (hk : k < 7) (hw : wdb B (s0T B c) k = true) => c_word1 (X := X) (d := d + 145) (k := k) (hT ▸ hw) hk hc g70 g71 ok0.1 g72 g73 ok0.2.1 ok0.2.2.1 g8 hb
  have W0 := fun (k : Nat) (hk : k < 7) (hw : ¬ wdb B (s0T B c) k = true) => c_word0 (X := X) (d := d + 145) (k := k) (hT ▸ hw) hk hc g70 g71 ok0.1 g72 g73 ok0.2.1 ok0.2.2.1 g8 hb
  have BG := fun (ky : Nat) (hk : ky < 3) (h1 : (s0T B c).1 = 1) => c_begin (X := X) (d := d + 146) (ky := ky) (t := cc) (s := s0T B c) hk (by omega) hc hb ok0 (by omega) rfl rfl g70 g71 g72 g73 g8 g9
  have hw1 : ∀ k, wdb B (s0T B c) k = true → (s0T B c).1 = 1 := fun k hw => (wdb_ok.mp hw).1
  rw [cl_27]
  by_cases w1 : wdb B (s0T B c) 1 = true
  · have ek : kyT B c = 0 := by unfold kyT; rw [if_pos w1]
    have x1 := W1 1 (by omega) w1
    obtain ⟨u2, e2, R2, h42, F2⟩ := BG 0 (by omega) (hw1 1 w1)
    obtain ⟨u', e, a1, a2, a3, a4, F⟩ := c_intoB (X := X) (d := d) (v1 := .int (nI cc)) ek (by omega) hcc hc hb R2 h42
    refine ⟨u', ?_, a1, a2, fun _ => ⟨by rw [ek]; exact a3, by rw [ek]; exact a4⟩, fI_trans F0 (fI_trans F2 F)⟩
    rw [← e]
    have e2 : gm_cl' X (d + 149) 28 [.ref 84, .int (nI 0), .ref (10030 + 2)] (gt_h u1) = some (none, gt_h u2) := e2
    simp -implicitDefEqProofs (disch := first | (with_reducible first | exact rt_27 | exact na_108 | exact na_42 | exact k_82.trans mc_42.symm | exact na_49 | exact k_82.trans mc_49.symm | exact na_28 | exact k_84.trans mc_28.symm | exact na_29 | exact k_84.trans mc_29.symm | exact c1_i | exact c1_r | exact of_eq_false nf_zGC | exact of_eq_false nf_zBA | exact of_eq_false nf_zDA | exact of_eq_false nf_zCA | exact of_eq_false nf_zBC | exact of_eq_false nf_zDC | exact of_eq_false nf_zSC | exact of_eq_false nf_zSP | exact of_eq_false nf_zLC | exact of_eq_false nf_zLB | exact of_eq_false nf_zLS | exact of_eq_false nf_zLP | exact of_eq_false nf_zTR) | ((with_reducible refine of_eq_false (nf_S ?_)) <;> omega) | omega | exact Nat.le_of_ble_eq_true rfl | ((with_reducible refine nI_ne0 ?_ ?_) <;> omega)) only [bk_27_0, tn_0, bl_al0, bl_il1, bl_c14, bl_ii_2, bpf_84_2, bf_84_0, bl_iv1, bl_s1, bl_iv2, bl_if_eq, bl_c0, bl_s2, bl_iv3, bl_goto, bk_27_39, tn_39, bl_s3, bl_c1, bl_s4, bk_27_61, tn_61, bl_s5, bl_c2, bl_s6, bk_27_83, tn_83, bl_ri, bl_rz, bl_rz1, bl_rz0, tn_85, bl_iv4, bf_82_2, bl_if_ne, bk_27_109, tn_109, bk_27_110, tn_110, Option.bind_some, Option.bind_none, Option.toList_some, Option.toList_none, List.cons_append, List.nil_append, not_false_eq_true, not_true_eq_false, nI_10, nI_00, bI_0, bI_n0, if_true, if_false, true_and, and_true, and_false, false_and, Classical.not_not, ↓reduceIte, eq_self, Nat.reduceMul, bl_nil, z_lt, z_le, z_gt, z_ge, nI_add, nI_mul, nI_sub, L_lt, L_le, L_eq, L_e0, N_ltT, N_ltF, N_leT, N_leF, N_eqT, N_eqF, gs_hit, gs_miss, c_held, ehd, e1, x1, e2]
  · have x1 := W0 1 (by omega) w1
    by_cases w3 : wdb B (s0T B c) 3 = true
    · have ek : kyT B c = 1 := by unfold kyT; rw [if_neg w1, if_pos w3]
      have x3 := W1 3 (by omega) w3
      obtain ⟨u2, e2, R2, h42, F2⟩ := BG 1 (by omega) (hw1 3 w3)
      obtain ⟨u', e, a1, a2, a3, a4, F⟩ := c_intoB (X := X) (d := d) (v1 := .int (nI cc)) ek (by omega) hcc hc hb R2 h42
      refine ⟨u', ?_, a1, a2, fun _ => ⟨by rw [ek]; exact a3, by rw [ek]; exact a4⟩, fI_trans F0 (fI_trans F2 F)⟩
      rw [← e]
      have e2 : gm_cl' X (d + 149) 28 [.ref 84, .int (nI 1), .ref (10030 + 4)] (gt_h u1) = some (none, gt_h u2) := e2
      simp -implicitDefEqProofs (disch := first | (with_reducible first | exact rt_27 | exact na_108 | exact na_42 | exact k_82.trans mc_42.symm | exact na_49 | exact k_82.trans mc_49.symm | exact na_28 | exact k_84.trans mc_28.symm | exact na_29 | exact k_84.trans mc_29.symm | exact c1_i | exact c1_r | exact of_eq_false nf_zGC | exact of_eq_false nf_zBA | exact of_eq_false nf_zDA | exact of_eq_false nf_zCA | exact of_eq_false nf_zBC | exact of_eq_false nf_zDC | exact of_eq_false nf_zSC | exact of_eq_false nf_zSP | exact of_eq_false nf_zLC | exact of_eq_false nf_zLB | exact of_eq_false nf_zLS | exact of_eq_false nf_zLP | exact of_eq_false nf_zTR) | ((with_reducible refine of_eq_false (nf_S ?_)) <;> omega) | omega | exact Nat.le_of_ble_eq_true rfl | ((with_reducible refine nI_ne0 ?_ ?_) <;> omega)) only [bk_27_0, tn_0, bl_al0, bl_il1, bl_c14, bl_ii_2, bpf_84_2, bf_84_0, bl_iv1, bl_s1, bl_iv2, bl_if_eq, bl_c0, bl_s2, bl_iv3, bl_goto, bk_27_39, tn_39, bl_s3, bl_c1, bl_s4, bk_27_61, tn_61, bl_s5, bl_c2, bl_s6, bk_27_83, tn_83, bl_ri, bl_rz, bl_rz1, bl_rz0, tn_85, bl_iv4, bf_82_2, bl_if_ne, bk_27_109, tn_109, bk_27_110, tn_110, Option.bind_some, Option.bind_none, Option.toList_some, Option.toList_none, List.cons_append, List.nil_append, not_false_eq_true, not_true_eq_false, nI_10, nI_00, bI_0, bI_n0, if_true, if_false, true_and, and_true, and_false, false_and, Classical.not_not, ↓reduceIte, eq_self, Nat.reduceMul, bl_nil, z_lt, z_le, z_gt, z_ge, nI_add, nI_mul, nI_sub, L_lt, L_le, L_eq, L_e0, N_ltT, N_ltF, N_leT, N_leF, N_eqT, N_eqF, gs_hit, gs_miss, c_held, ehd, e1, x1, x3, e2]
    · have x3 := W0 3 (by omega) w3
      by_cases w5 : wdb B (s0T B c) 5 = true
      · have ek : kyT B c = 2 := by unfold kyT; rw [if_neg w1, if_neg w3, if_pos w5]
        have x5 := W1 5 (by omega) w5
        obtain ⟨u2, e2, R2, h42, F2⟩ := BG 2 (by omega) (hw1 5 w5)
        obtain ⟨u', e, a1, a2, a3, a4, F⟩ := c_intoB (X := X) (d := d) (v1 := .int (nI cc)) ek (by omega) hcc hc hb R2 h42
        refine ⟨u', ?_, a1, a2, fun _ => ⟨by rw [ek]; exact a3, by rw [ek]; exact a4⟩, fI_trans F0 (fI_trans F2 F)⟩
        rw [← e]
        have e2 : gm_cl' X (d + 149) 28 [.ref 84, .int (nI 2), .ref (10030 + 6)] (gt_h u1) = some (none, gt_h u2) := e2
        simp -implicitDefEqProofs (disch := first | (with_reducible first | exact rt_27 | exact na_108 | exact na_42 | exact k_82.trans mc_42.symm | exact na_49 | exact k_82.trans mc_49.symm | exact na_28 | exact k_84.trans mc_28.symm | exact na_29 | exact k_84.trans mc_29.symm | exact c1_i | exact c1_r | exact of_eq_false nf_zGC | exact of_eq_false nf_zBA | exact of_eq_false nf_zDA | exact of_eq_false nf_zCA | exact of_eq_false nf_zBC | exact of_eq_false nf_zDC | exact of_eq_false nf_zSC | exact of_eq_false nf_zSP | exact of_eq_false nf_zLC | exact of_eq_false nf_zLB | exact of_eq_false nf_zLS | exact of_eq_false nf_zLP | exact of_eq_false nf_zTR) | ((with_reducible refine of_eq_false (nf_S ?_)) <;> omega) | omega | exact Nat.le_of_ble_eq_true rfl | ((with_reducible refine nI_ne0 ?_ ?_) <;> omega)) only [bk_27_0, tn_0, bl_al0, bl_il1, bl_c14, bl_ii_2, bpf_84_2, bf_84_0, bl_iv1, bl_s1, bl_iv2, bl_if_eq, bl_c0, bl_s2, bl_iv3, bl_goto, bk_27_39, tn_39, bl_s3, bl_c1, bl_s4, bk_27_61, tn_61, bl_s5, bl_c2, bl_s6, bk_27_83, tn_83, bl_ri, bl_rz, bl_rz1, bl_rz0, tn_85, bl_iv4, bf_82_2, bl_if_ne, bk_27_109, tn_109, bk_27_110, tn_110, Option.bind_some, Option.bind_none, Option.toList_some, Option.toList_none, List.cons_append, List.nil_append, not_false_eq_true, not_true_eq_false, nI_10, nI_00, bI_0, bI_n0, if_true, if_false, true_and, and_true, and_false, false_and, Classical.not_not, ↓reduceIte, eq_self, Nat.reduceMul, bl_nil, z_lt, z_le, z_gt, z_ge, nI_add, nI_mul, nI_sub, L_lt, L_le, L_eq, L_e0, N_ltT, N_ltF, N_leT, N_leF, N_eqT, N_eqF, gs_hit, gs_miss, c_held, ehd, e1, x1, x3, x5, e2]
      · have x5 := W0 5 (by omega) w5
        have ek : kyT B c = 3 := by unfold kyT; rw [if_neg w1, if_neg w3, if_neg w5]
        have eu : undT B c = false := by unfold undT; rw [ek]; rfl
        have ef : fltT B c = (s0T B c).2.1 := by unfold fltT; rw [ek]; rfl
        rw [eu, ef, if_neg (show ¬ (false = true) by decide)]
        refine ⟨u1, ?_, g72, g70, fun y => by omega, F0⟩
        simp -implicitDefEqProofs (disch := first | (with_reducible first | exact rt_27 | exact na_108 | exact na_42 | exact k_82.trans mc_42.symm | exact na_49 | exact k_82.trans mc_49.symm | exact na_28 | exact k_84.trans mc_28.symm | exact na_29 | exact k_84.trans mc_29.symm | exact c1_i | exact c1_r | exact of_eq_false nf_zGC | exact of_eq_false nf_zBA | exact of_eq_false nf_zDA | exact of_eq_false nf_zCA | exact of_eq_false nf_zBC | exact of_eq_false nf_zDC | exact of_eq_false nf_zSC | exact of_eq_false nf_zSP | exact of_eq_false nf_zLC | exact of_eq_false nf_zLB | exact of_eq_false nf_zLS | exact of_eq_false nf_zLP | exact of_eq_false nf_zTR) | ((with_reducible refine of_eq_false (nf_S ?_)) <;> omega) | omega | exact Nat.le_of_ble_eq_true rfl | ((with_reducible refine nI_ne0 ?_ ?_) <;> omega)) only [bk_27_0, tn_0, bl_al0, bl_il1, bl_c14, bl_ii_2, bpf_84_2, bf_84_0, bl_iv1, bl_s1, bl_iv2, bl_if_eq, bl_c0, bl_s2, bl_iv3, bl_goto, bk_27_39, tn_39, bl_s3, bl_c1, bl_s4, bk_27_61, tn_61, bl_s5, bl_c2, bl_s6, bk_27_83, tn_83, bl_ri, bl_rz, bl_rz1, bl_rz0, tn_85, bl_iv4, bf_82_2, bl_if_ne, bk_27_109, tn_109, bk_27_110, tn_110, Option.bind_some, Option.bind_none, Option.toList_some, Option.toList_none, List.cons_append, List.nil_append, not_false_eq_true, not_true_eq_false, nI_10, nI_00, bI_0, bI_n0, if_true, if_false, true_and, and_true, and_false, false_and, Classical.not_not, ↓reduceIte, eq_self, Nat.reduceMul, bl_nil, z_lt, z_le, z_gt, z_ge, nI_add, nI_mul, nI_sub, L_lt, L_le, L_eq, L_e0, N_ltT, N_ltF, N_leT, N_leF, N_eqT, N_eqF, gs_hit, gs_miss, c_held, ehd, e1, x1, x3, x5]
end C35
