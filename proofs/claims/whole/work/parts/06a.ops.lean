def gm_Fr (D : va_G) (z : Nat) (E : Nat → Nat) (fm : Value) (dA : Nat → ClassId) (X : List Int32) (i d : Nat) (p : Program) (R : Room) (s : State) (m : MethodId) (args : Array Value) (meth : Method) (c : Code) : Prop :=
  (p.tables.exec = Jvm.exec ∧ c.code = gm_by i ∧ meth.sig.returnType = gm_rt i ∧ c.maxLocals = gm_ml i ∧ s.vm.findClass (gm_cn (gm_mc i)) = some m.cls) ∧ (∀ w ∈ gm_gw, w.before args s = true) ∧ meth.locks = false ∧ ((gm_y i).name = "<init>" → meth.name = "<init>") ∧ gm_Ext D z E fm dA X s ∧ (d + 1 ≤ R.frames ∧ 40 * d + 40 ≤ R.locals)
theorem gm_anyF_ok {oc idx f : Nat} (q : gm_anyF oc idx f = true) : Cond.fieldLink (gm_cn oc) idx (gm_fld f).1 (gm_fld f).2.1 (gm_fld f).2.2 ∈ gm_gw ∧ (f = 2000 ∨ f = 2001 ∨ (f / 100 < 10 ∧ f % 100 < (gm_cl.getD (f / 100) ("", TX0, 0)).2.2)) := by
  obtain ⟨⟨a, b, g, k⟩, he, hq⟩ := List.any_eq_true.mp q
  simp only [Bool.and_eq_true, beq_iff_eq] at hq
  obtain ⟨rfl, rfl, rfl⟩ := hq
  have h1 := List.all_eq_true.mp gm_pF_ok _ he
  simp only [Bool.and_eq_true, Bool.or_eq_true, beq_iff_eq, decide_eq_true_eq] at h1
  exact ⟨gm_in_ok h1.1, h1.2⟩
theorem gm_anyK_ok {oc idx : Nat} {v : Int} (q : gm_anyK oc idx v = true) : Cond.constant (gm_cn oc) idx (Int32.ofInt v) ∈ gm_gw := by
  obtain ⟨⟨a, b, g, k⟩, he, hq⟩ := List.any_eq_true.mp q
  simp only [Bool.and_eq_true, beq_iff_eq] at hq
  obtain ⟨rfl, rfl, rfl⟩ := hq
  exact gm_in_ok (List.all_eq_true.mp gm_pK_ok _ he)
theorem gm_anyC_ok {oc idx f : Nat} (q : gm_anyC oc idx f = true) : Cond.classLink (gm_cn oc) idx (gm_cn (if f < 100 then f else gm_tc (f - 100))) ∈ gm_gw := by
  obtain ⟨⟨a, b, g, k⟩, he, hq⟩ := List.any_eq_true.mp q
  simp only [Bool.and_eq_true, beq_iff_eq] at hq
  obtain ⟨rfl, rfl, rfl⟩ := hq
  exact gm_in_ok (List.all_eq_true.mp gm_pC_ok _ he)
theorem gm_anyS_ok {oc idx f : Nat} (q : gm_anyS oc idx f = true) : ∃ k, (oc, idx, f, k) ∈ gm_pS := by
  obtain ⟨⟨a, b, g, k⟩, he, hq⟩ := List.any_eq_true.mp q
  simp only [Bool.and_eq_true, beq_iff_eq] at hq
  obtain ⟨rfl, rfl, rfl⟩ := hq
  exact ⟨k, he⟩
theorem gm_anyM_ok {kd oc idx j : Nat} (q : gm_anyM kd oc idx j = true) : ∃ a b g k f, gm_mok (kd, oc, idx, j, a, b, g, k, f) = true := by
  obtain ⟨⟨x1, x2, x3, x4, a, b, g, k, f⟩, he, hq⟩ := List.any_eq_true.mp q
  simp only [Bool.and_eq_true, beq_iff_eq] at hq
  obtain ⟨rfl, rfl, rfl, rfl⟩ := hq
  exact ⟨a, b, g, k, f, List.all_eq_true.mp gm_pM_ok _ he⟩
theorem gm_anyN_ok {oc idx j : Nat} (q : gm_anyN oc idx j = true) : ∃ a b g k, (oc, idx, j, a, b, g, k) ∈ gm_pN2 ∧ gm_nok (oc, idx, j, a, b, g, k) = true := by
  obtain ⟨⟨x1, x2, x3, a, b, g, k⟩, he, hq⟩ := List.any_eq_true.mp q
  simp only [Bool.and_eq_true, beq_iff_eq] at hq
  obtain ⟨rfl, rfl, rfl⟩ := hq
  exact ⟨a, b, g, k, he, List.all_eq_true.mp gm_pN_ok _ he⟩
theorem gm_sw_nn {d x : Int} : ∀ {ps : List (Int × Int)}, 0 ≤ d → ps.all (fun q => decide (0 ≤ q.2)) = true → 0 ≤ gm_sw d x ps
  | [], hd, _ => hd
  | (k, t) :: r, hd, h => by
    simp only [List.all_cons, Bool.and_eq_true, decide_eq_true_eq] at h
    unfold gm_sw
    split
    · exact h.1
    · exact gm_sw_nn hd h.2
theorem gm_sw_lk (pc d x : Int) : ∀ qs : List (Int × Int), gm_sw (pc + d) x (qs.map (fun q => (q.1, pc + q.2))) = pc + Op.lookupswitch.offset qs d x
  | [] => rfl
  | (k, t) :: r => by
    rw [List.map_cons, Op.lookupswitch.offset_cons]
    unfold gm_sw
    by_cases q : x = k
    · rw [if_pos q, if_pos q.symm]
    · rw [if_neg q, if_neg (fun y => q y.symm)]
      exact gm_sw_lk pc d x r
theorem gm_tb_cons (pc : Nat) (lo o : Int) (r : List Int) : gm_tb pc lo (o :: r) = (lo, (pc : Int) + o) :: gm_tb pc (lo + 1) r := by
  unfold gm_tb
  rw [List.mapIdx_cons]
  congr 1
  · simp
  · congr 1
    funext k o
    simp only [Prod.mk.injEq, and_true]
    omega
theorem gm_sw_tb (pc : Nat) (d x : Int) : ∀ (offs : List Int) (lo : Int), (x < lo ∨ lo + offs.length - 1 < x → gm_sw d x (gm_tb pc lo offs) = d) ∧ (¬ x < lo → ¬ lo + offs.length - 1 < x → ∃ o, offs[(x - lo).toNat]? = some o ∧ gm_sw d x (gm_tb pc lo offs) = pc + o)
  | [], lo => by
    refine ⟨fun _ => rfl, fun h1 h2 => ?_⟩
    simp only [List.length_nil] at h2
    omega
  | o :: r, lo => by
    obtain ⟨i1, i2⟩ := gm_sw_tb pc d x r (lo + 1)
    rw [gm_tb_cons]
    unfold gm_sw
    simp only [List.length_cons]
    refine ⟨fun q => ?_, fun q1 q2 => ?_⟩
    · rw [if_neg (by omega)]
      exact i1 (by omega)
    · by_cases e : x = lo
      · rw [if_pos e]
        exact ⟨o, by rw [e, Int.sub_self]; rfl, rfl⟩
      · rw [if_neg e]
        obtain ⟨o', h1, h2⟩ := i2 (by omega) (by omega)
        refine ⟨o', ?_, h2⟩
        rw [show (x - lo).toNat = (x - (lo + 1)).toNat + 1 by omega, List.getElem?_cons_succ]
        exact h1
theorem gm_ad_out {z : Nat} {E : Nat → Nat} {a : Nat} (b : Nat) (q : a = 10000 + b) : gm_ad z E a = E b := by
  subst q
  unfold gm_ad
  rw [if_neg (by omega), Nat.add_sub_cancel_left]
theorem gm_ad_in {z : Nat} {E : Nat → Nat} {a : Nat} (q : a < 10000) : gm_ad z E a = z + a := if_pos q
section GM6
variable {z : Nat} {E : Nat → Nat} {fm : Value} {dA : Nat → ClassId} {D : va_G} {X : List Int32}
variable {p : Program} {l : Launch} {e : Env} {R : Room} {s : State} {m : MethodId} {args : Array Value} {below : List Frame} {meth : Method} {c : Code} {Q : State → Prop} {H : Heap} {locs : List Loc} {cells slots : Nat} {ls : Array Slot} {i d pc pc' nx : Nat} {L st L' st' : List Value} {h h' : gm_H}

theorem gm_cv_ref {a : Nat} (ha : ¬ a = 10050) : gm_cv z E fm (.ref a) = .ref (gm_ad z E a) := if_neg ha
/-- what comes behind a step: any heap that holds the cells -/
abbrev gm_kk (D : va_G) (z : Nat) (E : Nat → Nat) (fm : Value) (dA : Nat → ClassId) (p : Program) (l : Launch) (e : Env) (R : Room) (s : State) (m : MethodId) (args : Array Value) (below : List Frame) (meth : Method) (c : Code) (Q : State → Prop) (nL cells slots pc : Nat) (L st : List Value) (h : gm_H) : Prop :=
  ∀ (H : Heap) (locs : List Loc) (ls : Array Slot), va_P D gm_cl (gm_ws z E fm dA h) H → va_S (gm_A z) s.heap H locs → gm_LR z E fm ls nL L → W p l e R s m args below meth c H locs cells slots Q (F0 m pc ls (st.map (gm_cv z E fm)))
theorem gm_o_iadd  (F : gm_Fr D z E fm dA X i d p R s m args meth c) (hat : gm_at i pc = some (.iadd, nx)) (hs : gm_stp X (gm_rt i) (.iadd) nx L st h = some (.inl (pc', L', st', h'))) (hP : va_P D gm_cl (gm_ws z E fm dA h) H) (hS : va_S (gm_A z) s.heap H locs) (hL : gm_LR z E fm ls (gm_ml i) L)
    (kk : gm_kk D z E fm dA p l e R s m args below meth c Q (gm_ml i) cells slots pc' L' st' h') : W p l e R s m args below meth c H locs cells slots Q (F0 m pc ls (st.map (gm_cv z E fm))) := by
  obtain ⟨⟨hx, hb, hr, hml, hown⟩, hts, hlk, hnm, hE, hfr, hlo⟩ := F
  obtain ⟨real, len, hnx, hd, hq⟩ := gm_at_ok hat
  simp only [gm_res, gm_pl, Bool.and_eq_true, decide_eq_true_eq, beq_iff_eq] at hq
  obtain ⟨rfl, rfl⟩ := hq
  subst hnx
  simp only [gm_stp, gm_st2] at hs
  split at hs
  · simp only [gm_go, Option.some.injEq, Sum.inl.injEq, Prod.mk.injEq] at hs
    obtain ⟨rfl, rfl, rfl, rfl⟩ := hs
    exact lv_iadd hx hb hd (kk H locs ls hP hS hL)
  · cases hs
theorem gm_o_isub  (F : gm_Fr D z E fm dA X i d p R s m args meth c) (hat : gm_at i pc = some (.isub, nx)) (hs : gm_stp X (gm_rt i) (.isub) nx L st h = some (.inl (pc', L', st', h'))) (hP : va_P D gm_cl (gm_ws z E fm dA h) H) (hS : va_S (gm_A z) s.heap H locs) (hL : gm_LR z E fm ls (gm_ml i) L)
    (kk : gm_kk D z E fm dA p l e R s m args below meth c Q (gm_ml i) cells slots pc' L' st' h') : W p l e R s m args below meth c H locs cells slots Q (F0 m pc ls (st.map (gm_cv z E fm))) := by
  obtain ⟨⟨hx, hb, hr, hml, hown⟩, hts, hlk, hnm, hE, hfr, hlo⟩ := F
  obtain ⟨real, len, hnx, hd, hq⟩ := gm_at_ok hat
  simp only [gm_res, gm_pl, Bool.and_eq_true, decide_eq_true_eq, beq_iff_eq] at hq
  obtain ⟨rfl, rfl⟩ := hq
  subst hnx
  simp only [gm_stp, gm_st2] at hs
  split at hs
  · simp only [gm_go, Option.some.injEq, Sum.inl.injEq, Prod.mk.injEq] at hs
    obtain ⟨rfl, rfl, rfl, rfl⟩ := hs
    exact lv_isub hx hb hd (kk H locs ls hP hS hL)
  · cases hs
theorem gm_o_imul  (F : gm_Fr D z E fm dA X i d p R s m args meth c) (hat : gm_at i pc = some (.imul, nx)) (hs : gm_stp X (gm_rt i) (.imul) nx L st h = some (.inl (pc', L', st', h'))) (hP : va_P D gm_cl (gm_ws z E fm dA h) H) (hS : va_S (gm_A z) s.heap H locs) (hL : gm_LR z E fm ls (gm_ml i) L)
    (kk : gm_kk D z E fm dA p l e R s m args below meth c Q (gm_ml i) cells slots pc' L' st' h') : W p l e R s m args below meth c H locs cells slots Q (F0 m pc ls (st.map (gm_cv z E fm))) := by
  obtain ⟨⟨hx, hb, hr, hml, hown⟩, hts, hlk, hnm, hE, hfr, hlo⟩ := F
  obtain ⟨real, len, hnx, hd, hq⟩ := gm_at_ok hat
  simp only [gm_res, gm_pl, Bool.and_eq_true, decide_eq_true_eq, beq_iff_eq] at hq
  obtain ⟨rfl, rfl⟩ := hq
  subst hnx
  simp only [gm_stp, gm_st2] at hs
  split at hs
  · simp only [gm_go, Option.some.injEq, Sum.inl.injEq, Prod.mk.injEq] at hs
    obtain ⟨rfl, rfl, rfl, rfl⟩ := hs
    exact lv_imul hx hb hd (kk H locs ls hP hS hL)
  · cases hs
theorem gm_o_iand  (F : gm_Fr D z E fm dA X i d p R s m args meth c) (hat : gm_at i pc = some (.iand, nx)) (hs : gm_stp X (gm_rt i) (.iand) nx L st h = some (.inl (pc', L', st', h'))) (hP : va_P D gm_cl (gm_ws z E fm dA h) H) (hS : va_S (gm_A z) s.heap H locs) (hL : gm_LR z E fm ls (gm_ml i) L)
    (kk : gm_kk D z E fm dA p l e R s m args below meth c Q (gm_ml i) cells slots pc' L' st' h') : W p l e R s m args below meth c H locs cells slots Q (F0 m pc ls (st.map (gm_cv z E fm))) := by
  obtain ⟨⟨hx, hb, hr, hml, hown⟩, hts, hlk, hnm, hE, hfr, hlo⟩ := F
  obtain ⟨real, len, hnx, hd, hq⟩ := gm_at_ok hat
  simp only [gm_res, gm_pl, Bool.and_eq_true, decide_eq_true_eq, beq_iff_eq] at hq
  obtain ⟨rfl, rfl⟩ := hq
  subst hnx
  simp only [gm_stp, gm_st2] at hs
  split at hs
  · simp only [gm_go, Option.some.injEq, Sum.inl.injEq, Prod.mk.injEq] at hs
    obtain ⟨rfl, rfl, rfl, rfl⟩ := hs
    exact lv_iand hx hb hd (kk H locs ls hP hS hL)
  · cases hs
theorem gm_o_ishr  (F : gm_Fr D z E fm dA X i d p R s m args meth c) (hat : gm_at i pc = some (.ishr, nx)) (hs : gm_stp X (gm_rt i) (.ishr) nx L st h = some (.inl (pc', L', st', h'))) (hP : va_P D gm_cl (gm_ws z E fm dA h) H) (hS : va_S (gm_A z) s.heap H locs) (hL : gm_LR z E fm ls (gm_ml i) L)
    (kk : gm_kk D z E fm dA p l e R s m args below meth c Q (gm_ml i) cells slots pc' L' st' h') : W p l e R s m args below meth c H locs cells slots Q (F0 m pc ls (st.map (gm_cv z E fm))) := by
  obtain ⟨⟨hx, hb, hr, hml, hown⟩, hts, hlk, hnm, hE, hfr, hlo⟩ := F
  obtain ⟨real, len, hnx, hd, hq⟩ := gm_at_ok hat
  simp only [gm_res, gm_pl, Bool.and_eq_true, decide_eq_true_eq, beq_iff_eq] at hq
  obtain ⟨rfl, rfl⟩ := hq
  subst hnx
  simp only [gm_stp, gm_st2] at hs
  split at hs
  · simp only [gm_go, Option.some.injEq, Sum.inl.injEq, Prod.mk.injEq] at hs
    obtain ⟨rfl, rfl, rfl, rfl⟩ := hs
    exact lv_ishr hx hb hd (kk H locs ls hP hS hL)
  · cases hs
theorem gm_o_iushr  (F : gm_Fr D z E fm dA X i d p R s m args meth c) (hat : gm_at i pc = some (.iushr, nx)) (hs : gm_stp X (gm_rt i) (.iushr) nx L st h = some (.inl (pc', L', st', h'))) (hP : va_P D gm_cl (gm_ws z E fm dA h) H) (hS : va_S (gm_A z) s.heap H locs) (hL : gm_LR z E fm ls (gm_ml i) L)
    (kk : gm_kk D z E fm dA p l e R s m args below meth c Q (gm_ml i) cells slots pc' L' st' h') : W p l e R s m args below meth c H locs cells slots Q (F0 m pc ls (st.map (gm_cv z E fm))) := by
  obtain ⟨⟨hx, hb, hr, hml, hown⟩, hts, hlk, hnm, hE, hfr, hlo⟩ := F
  obtain ⟨real, len, hnx, hd, hq⟩ := gm_at_ok hat
  simp only [gm_res, gm_pl, Bool.and_eq_true, decide_eq_true_eq, beq_iff_eq] at hq
  obtain ⟨rfl, rfl⟩ := hq
  subst hnx
  simp only [gm_stp, gm_st2] at hs
  split at hs
  · simp only [gm_go, Option.some.injEq, Sum.inl.injEq, Prod.mk.injEq] at hs
    obtain ⟨rfl, rfl, rfl, rfl⟩ := hs
    exact lv_iushr hx hb hd rfl (kk H locs ls hP hS hL)
  · cases hs
theorem gm_o_ineg  (F : gm_Fr D z E fm dA X i d p R s m args meth c) (hat : gm_at i pc = some (.ineg, nx)) (hs : gm_stp X (gm_rt i) (.ineg) nx L st h = some (.inl (pc', L', st', h'))) (hP : va_P D gm_cl (gm_ws z E fm dA h) H) (hS : va_S (gm_A z) s.heap H locs) (hL : gm_LR z E fm ls (gm_ml i) L)
    (kk : gm_kk D z E fm dA p l e R s m args below meth c Q (gm_ml i) cells slots pc' L' st' h') : W p l e R s m args below meth c H locs cells slots Q (F0 m pc ls (st.map (gm_cv z E fm))) := by
  obtain ⟨⟨hx, hb, hr, hml, hown⟩, hts, hlk, hnm, hE, hfr, hlo⟩ := F
  obtain ⟨real, len, hnx, hd, hq⟩ := gm_at_ok hat
  simp only [gm_res, gm_pl, Bool.and_eq_true, decide_eq_true_eq, beq_iff_eq] at hq
  obtain ⟨rfl, rfl⟩ := hq
  subst hnx
  simp only [gm_stp, gm_st1] at hs
  split at hs
  · simp only [gm_go, Option.some.injEq, Sum.inl.injEq, Prod.mk.injEq] at hs
    obtain ⟨rfl, rfl, rfl, rfl⟩ := hs
    exact lv_ineg hx hb hd (kk H locs ls hP hS hL)
  · cases hs
theorem gm_o_i2s  (F : gm_Fr D z E fm dA X i d p R s m args meth c) (hat : gm_at i pc = some (.i2s, nx)) (hs : gm_stp X (gm_rt i) (.i2s) nx L st h = some (.inl (pc', L', st', h'))) (hP : va_P D gm_cl (gm_ws z E fm dA h) H) (hS : va_S (gm_A z) s.heap H locs) (hL : gm_LR z E fm ls (gm_ml i) L)
    (kk : gm_kk D z E fm dA p l e R s m args below meth c Q (gm_ml i) cells slots pc' L' st' h') : W p l e R s m args below meth c H locs cells slots Q (F0 m pc ls (st.map (gm_cv z E fm))) := by
  obtain ⟨⟨hx, hb, hr, hml, hown⟩, hts, hlk, hnm, hE, hfr, hlo⟩ := F
  obtain ⟨real, len, hnx, hd, hq⟩ := gm_at_ok hat
  simp only [gm_res, gm_pl, Bool.and_eq_true, decide_eq_true_eq, beq_iff_eq] at hq
  obtain ⟨rfl, rfl⟩ := hq
  subst hnx
  simp only [gm_stp, gm_st1] at hs
  split at hs
  · simp only [gm_go, Option.some.injEq, Sum.inl.injEq, Prod.mk.injEq] at hs
    obtain ⟨rfl, rfl, rfl, rfl⟩ := hs
    exact lv_i2s hx hb hd rfl (kk H locs ls hP hS hL)
  · cases hs
theorem gm_o_i2c  (F : gm_Fr D z E fm dA X i d p R s m args meth c) (hat : gm_at i pc = some (.i2c, nx)) (hs : gm_stp X (gm_rt i) (.i2c) nx L st h = some (.inl (pc', L', st', h'))) (hP : va_P D gm_cl (gm_ws z E fm dA h) H) (hS : va_S (gm_A z) s.heap H locs) (hL : gm_LR z E fm ls (gm_ml i) L)
    (kk : gm_kk D z E fm dA p l e R s m args below meth c Q (gm_ml i) cells slots pc' L' st' h') : W p l e R s m args below meth c H locs cells slots Q (F0 m pc ls (st.map (gm_cv z E fm))) := by
  obtain ⟨⟨hx, hb, hr, hml, hown⟩, hts, hlk, hnm, hE, hfr, hlo⟩ := F
  obtain ⟨real, len, hnx, hd, hq⟩ := gm_at_ok hat
  simp only [gm_res, gm_pl, Bool.and_eq_true, decide_eq_true_eq, beq_iff_eq] at hq
  obtain ⟨rfl, rfl⟩ := hq
  subst hnx
  simp only [gm_stp, gm_st1] at hs
  split at hs
  · simp only [gm_go, Option.some.injEq, Sum.inl.injEq, Prod.mk.injEq] at hs
    obtain ⟨rfl, rfl, rfl, rfl⟩ := hs
    exact lv_i2c hx hb hd rfl (kk H locs ls hP hS hL)
  · cases hs
theorem gm_o_i2b  (F : gm_Fr D z E fm dA X i d p R s m args meth c) (hat : gm_at i pc = some (.i2b, nx)) (hs : gm_stp X (gm_rt i) (.i2b) nx L st h = some (.inl (pc', L', st', h'))) (hP : va_P D gm_cl (gm_ws z E fm dA h) H) (hS : va_S (gm_A z) s.heap H locs) (hL : gm_LR z E fm ls (gm_ml i) L)
    (kk : gm_kk D z E fm dA p l e R s m args below meth c Q (gm_ml i) cells slots pc' L' st' h') : W p l e R s m args below meth c H locs cells slots Q (F0 m pc ls (st.map (gm_cv z E fm))) := by
  obtain ⟨⟨hx, hb, hr, hml, hown⟩, hts, hlk, hnm, hE, hfr, hlo⟩ := F
  obtain ⟨real, len, hnx, hd, hq⟩ := gm_at_ok hat
  simp only [gm_res, gm_pl, Bool.and_eq_true, decide_eq_true_eq, beq_iff_eq] at hq
  obtain ⟨rfl, rfl⟩ := hq
  subst hnx
  simp only [gm_stp, gm_st1] at hs
  split at hs
  · simp only [gm_go, Option.some.injEq, Sum.inl.injEq, Prod.mk.injEq] at hs
    obtain ⟨rfl, rfl, rfl, rfl⟩ := hs
    exact lv_i2b hx hb hd rfl (kk H locs ls hP hS hL)
  · cases hs
theorem gm_o_i2l  (F : gm_Fr D z E fm dA X i d p R s m args meth c) (hat : gm_at i pc = some (.i2l, nx)) (hs : gm_stp X (gm_rt i) (.i2l) nx L st h = some (.inl (pc', L', st', h'))) (hP : va_P D gm_cl (gm_ws z E fm dA h) H) (hS : va_S (gm_A z) s.heap H locs) (hL : gm_LR z E fm ls (gm_ml i) L)
    (kk : gm_kk D z E fm dA p l e R s m args below meth c Q (gm_ml i) cells slots pc' L' st' h') : W p l e R s m args below meth c H locs cells slots Q (F0 m pc ls (st.map (gm_cv z E fm))) := by
  obtain ⟨⟨hx, hb, hr, hml, hown⟩, hts, hlk, hnm, hE, hfr, hlo⟩ := F
  obtain ⟨real, len, hnx, hd, hq⟩ := gm_at_ok hat
  simp only [gm_res, gm_pl, Bool.and_eq_true, decide_eq_true_eq, beq_iff_eq] at hq
  obtain ⟨rfl, rfl⟩ := hq
  subst hnx
  simp only [gm_stp] at hs
  split at hs
  · simp only [gm_go, Option.some.injEq, Sum.inl.injEq, Prod.mk.injEq] at hs
    obtain ⟨rfl, rfl, rfl, rfl⟩ := hs
    exact lv_i2l hx hb hd rfl (kk H locs ls hP hS hL)
  · cases hs
theorem gm_o_ladd  (F : gm_Fr D z E fm dA X i d p R s m args meth c) (hat : gm_at i pc = some (.ladd, nx)) (hs : gm_stp X (gm_rt i) (.ladd) nx L st h = some (.inl (pc', L', st', h'))) (hP : va_P D gm_cl (gm_ws z E fm dA h) H) (hS : va_S (gm_A z) s.heap H locs) (hL : gm_LR z E fm ls (gm_ml i) L)
    (kk : gm_kk D z E fm dA p l e R s m args below meth c Q (gm_ml i) cells slots pc' L' st' h') : W p l e R s m args below meth c H locs cells slots Q (F0 m pc ls (st.map (gm_cv z E fm))) := by
  obtain ⟨⟨hx, hb, hr, hml, hown⟩, hts, hlk, hnm, hE, hfr, hlo⟩ := F
  obtain ⟨real, len, hnx, hd, hq⟩ := gm_at_ok hat
  simp only [gm_res, gm_pl, Bool.and_eq_true, decide_eq_true_eq, beq_iff_eq] at hq
  obtain ⟨rfl, rfl⟩ := hq
  subst hnx
  simp only [gm_stp] at hs
  split at hs
  · simp only [gm_go, Option.some.injEq, Sum.inl.injEq, Prod.mk.injEq] at hs
    obtain ⟨rfl, rfl, rfl, rfl⟩ := hs
    exact lv_ladd hx hb hd (kk H locs ls hP hS hL)
  · cases hs
theorem gm_o_lcmp  (F : gm_Fr D z E fm dA X i d p R s m args meth c) (hat : gm_at i pc = some (.lcmp, nx)) (hs : gm_stp X (gm_rt i) (.lcmp) nx L st h = some (.inl (pc', L', st', h'))) (hP : va_P D gm_cl (gm_ws z E fm dA h) H) (hS : va_S (gm_A z) s.heap H locs) (hL : gm_LR z E fm ls (gm_ml i) L)
    (kk : gm_kk D z E fm dA p l e R s m args below meth c Q (gm_ml i) cells slots pc' L' st' h') : W p l e R s m args below meth c H locs cells slots Q (F0 m pc ls (st.map (gm_cv z E fm))) := by
  obtain ⟨⟨hx, hb, hr, hml, hown⟩, hts, hlk, hnm, hE, hfr, hlo⟩ := F
  obtain ⟨real, len, hnx, hd, hq⟩ := gm_at_ok hat
  simp only [gm_res, gm_pl, Bool.and_eq_true, decide_eq_true_eq, beq_iff_eq] at hq
  obtain ⟨rfl, rfl⟩ := hq
  subst hnx
  simp only [gm_stp] at hs
  split at hs
  · simp only [gm_go, Option.some.injEq, Sum.inl.injEq, Prod.mk.injEq] at hs
    obtain ⟨rfl, rfl, rfl, rfl⟩ := hs
    exact W.lcmp hx hb hd (kk H locs ls hP hS hL)
  · cases hs
theorem gm_o_idiv  (F : gm_Fr D z E fm dA X i d p R s m args meth c) (hat : gm_at i pc = some (.idiv, nx)) (hs : gm_stp X (gm_rt i) (.idiv) nx L st h = some (.inl (pc', L', st', h'))) (hP : va_P D gm_cl (gm_ws z E fm dA h) H) (hS : va_S (gm_A z) s.heap H locs) (hL : gm_LR z E fm ls (gm_ml i) L)
    (kk : gm_kk D z E fm dA p l e R s m args below meth c Q (gm_ml i) cells slots pc' L' st' h') : W p l e R s m args below meth c H locs cells slots Q (F0 m pc ls (st.map (gm_cv z E fm))) := by
  obtain ⟨⟨hx, hb, hr, hml, hown⟩, hts, hlk, hnm, hE, hfr, hlo⟩ := F
  obtain ⟨real, len, hnx, hd, hq⟩ := gm_at_ok hat
  simp only [gm_res, gm_pl, Bool.and_eq_true, decide_eq_true_eq, beq_iff_eq] at hq
  obtain ⟨rfl, rfl⟩ := hq
  subst hnx
  simp only [gm_stp] at hs
  split at hs
  · split at hs
    · cases hs
    · rename_i q0
      simp only [gm_go, Option.some.injEq, Sum.inl.injEq, Prod.mk.injEq] at hs
      obtain ⟨rfl, rfl, rfl, rfl⟩ := hs
      exact lv_idiv hx hb hd q0 (kk H locs ls hP hS hL)
  · cases hs
theorem gm_o_irem  (F : gm_Fr D z E fm dA X i d p R s m args meth c) (hat : gm_at i pc = some (.irem, nx)) (hs : gm_stp X (gm_rt i) (.irem) nx L st h = some (.inl (pc', L', st', h'))) (hP : va_P D gm_cl (gm_ws z E fm dA h) H) (hS : va_S (gm_A z) s.heap H locs) (hL : gm_LR z E fm ls (gm_ml i) L)
    (kk : gm_kk D z E fm dA p l e R s m args below meth c Q (gm_ml i) cells slots pc' L' st' h') : W p l e R s m args below meth c H locs cells slots Q (F0 m pc ls (st.map (gm_cv z E fm))) := by
  obtain ⟨⟨hx, hb, hr, hml, hown⟩, hts, hlk, hnm, hE, hfr, hlo⟩ := F
  obtain ⟨real, len, hnx, hd, hq⟩ := gm_at_ok hat
  simp only [gm_res, gm_pl, Bool.and_eq_true, decide_eq_true_eq, beq_iff_eq] at hq
  obtain ⟨rfl, rfl⟩ := hq
  subst hnx
  simp only [gm_stp] at hs
  split at hs
  · split at hs
    · cases hs
    · rename_i q0
      simp only [gm_go, Option.some.injEq, Sum.inl.injEq, Prod.mk.injEq] at hs
      obtain ⟨rfl, rfl, rfl, rfl⟩ := hs
      exact lv_irem hx hb hd q0 (kk H locs ls hP hS hL)
  · cases hs
theorem gm_o_dup  (F : gm_Fr D z E fm dA X i d p R s m args meth c) (hat : gm_at i pc = some (.dup, nx)) (hs : gm_stp X (gm_rt i) (.dup) nx L st h = some (.inl (pc', L', st', h'))) (hP : va_P D gm_cl (gm_ws z E fm dA h) H) (hS : va_S (gm_A z) s.heap H locs) (hL : gm_LR z E fm ls (gm_ml i) L)
    (kk : gm_kk D z E fm dA p l e R s m args below meth c Q (gm_ml i) cells slots pc' L' st' h') : W p l e R s m args below meth c H locs cells slots Q (F0 m pc ls (st.map (gm_cv z E fm))) := by
  obtain ⟨⟨hx, hb, hr, hml, hown⟩, hts, hlk, hnm, hE, hfr, hlo⟩ := F
  obtain ⟨real, len, hnx, hd, hq⟩ := gm_at_ok hat
  simp only [gm_res, gm_pl, Bool.and_eq_true, decide_eq_true_eq, beq_iff_eq] at hq
  obtain ⟨rfl, rfl⟩ := hq
  subst hnx
  simp only [gm_stp] at hs
  split at hs
  · split at hs
    · rename_i q0
      simp only [gm_go, Option.some.injEq, Sum.inl.injEq, Prod.mk.injEq] at hs
      obtain ⟨rfl, rfl, rfl, rfl⟩ := hs
      exact lv_dup hx hb hd (gm_cv_cat hE.2.2.2.2.2.2.2.2.2.2.2.2 q0) (kk H locs ls hP hS hL)
    · cases hs
  · cases hs
theorem gm_o_pop  (F : gm_Fr D z E fm dA X i d p R s m args meth c) (hat : gm_at i pc = some (.pop, nx)) (hs : gm_stp X (gm_rt i) (.pop) nx L st h = some (.inl (pc', L', st', h'))) (hP : va_P D gm_cl (gm_ws z E fm dA h) H) (hS : va_S (gm_A z) s.heap H locs) (hL : gm_LR z E fm ls (gm_ml i) L)
    (kk : gm_kk D z E fm dA p l e R s m args below meth c Q (gm_ml i) cells slots pc' L' st' h') : W p l e R s m args below meth c H locs cells slots Q (F0 m pc ls (st.map (gm_cv z E fm))) := by
  obtain ⟨⟨hx, hb, hr, hml, hown⟩, hts, hlk, hnm, hE, hfr, hlo⟩ := F
  obtain ⟨real, len, hnx, hd, hq⟩ := gm_at_ok hat
  simp only [gm_res, gm_pl, Bool.and_eq_true, decide_eq_true_eq, beq_iff_eq] at hq
  obtain ⟨rfl, rfl⟩ := hq
  subst hnx
  simp only [gm_stp] at hs
  split at hs
  · split at hs
    · rename_i q0
      simp only [gm_go, Option.some.injEq, Sum.inl.injEq, Prod.mk.injEq] at hs
      obtain ⟨rfl, rfl, rfl, rfl⟩ := hs
      exact lv_pop hx hb hd (gm_cv_cat hE.2.2.2.2.2.2.2.2.2.2.2.2 q0) (kk H locs ls hP hS hL)
    · cases hs
  · cases hs
theorem gm_o_dup2  (F : gm_Fr D z E fm dA X i d p R s m args meth c) (hat : gm_at i pc = some (.dup2, nx)) (hs : gm_stp X (gm_rt i) (.dup2) nx L st h = some (.inl (pc', L', st', h'))) (hP : va_P D gm_cl (gm_ws z E fm dA h) H) (hS : va_S (gm_A z) s.heap H locs) (hL : gm_LR z E fm ls (gm_ml i) L)
    (kk : gm_kk D z E fm dA p l e R s m args below meth c Q (gm_ml i) cells slots pc' L' st' h') : W p l e R s m args below meth c H locs cells slots Q (F0 m pc ls (st.map (gm_cv z E fm))) := by
  obtain ⟨⟨hx, hb, hr, hml, hown⟩, hts, hlk, hnm, hE, hfr, hlo⟩ := F
  obtain ⟨real, len, hnx, hd, hq⟩ := gm_at_ok hat
  simp only [gm_res, gm_pl, Bool.and_eq_true, decide_eq_true_eq, beq_iff_eq] at hq
  obtain ⟨rfl, rfl⟩ := hq
  subst hnx
  simp only [gm_stp] at hs
  split at hs
  · split at hs
    · rename_i q0
      simp only [Bool.and_eq_true] at q0
      simp only [gm_go, Option.some.injEq, Sum.inl.injEq, Prod.mk.injEq] at hs
      obtain ⟨rfl, rfl, rfl, rfl⟩ := hs
      exact lv_dup2_11 hx hb hd (gm_cv_cat hE.2.2.2.2.2.2.2.2.2.2.2.2 q0.1) (gm_cv_cat hE.2.2.2.2.2.2.2.2.2.2.2.2 q0.2) (kk H locs ls hP hS hL)
    · cases hs
  · cases hs
theorem gm_o_iconst {v : Int} (F : gm_Fr D z E fm dA X i d p R s m args meth c) (hat : gm_at i pc = some (.iconst v, nx)) (hs : gm_stp X (gm_rt i) (.iconst v) nx L st h = some (.inl (pc', L', st', h'))) (hP : va_P D gm_cl (gm_ws z E fm dA h) H) (hS : va_S (gm_A z) s.heap H locs) (hL : gm_LR z E fm ls (gm_ml i) L)
    (kk : gm_kk D z E fm dA p l e R s m args below meth c Q (gm_ml i) cells slots pc' L' st' h') : W p l e R s m args below meth c H locs cells slots Q (F0 m pc ls (st.map (gm_cv z E fm))) := by
  obtain ⟨⟨hx, hb, hr, hml, hown⟩, hts, hlk, hnm, hE, hfr, hlo⟩ := F
  obtain ⟨real, len, hnx, hd, hq⟩ := gm_at_ok hat
  simp only [gm_stp] at hs
  simp only [gm_go, Option.some.injEq, Sum.inl.injEq, Prod.mk.injEq] at hs
  obtain ⟨rfl, rfl, rfl, rfl⟩ := hs
  subst hnx
  cases real with
  | iconst n =>
    simp only [gm_res, Bool.and_eq_true, beq_iff_eq] at hq
    obtain ⟨rfl, rfl⟩ := hq
    exact lv_iconst hx hb hd rfl (kk H locs ls hP hS hL)
  | bipush n =>
    simp only [gm_res, Bool.and_eq_true, beq_iff_eq, decide_eq_true_eq] at hq
    obtain ⟨q1, rfl⟩ := hq
    exact lv_bipush hx hb hd q1 (kk H locs ls hP hS hL)
  | sipush n =>
    simp only [gm_res, Bool.and_eq_true, beq_iff_eq, decide_eq_true_eq] at hq
    obtain ⟨q1, rfl⟩ := hq
    exact lv_sipush hx hb hd q1 (kk H locs ls hP hS hL)
  | ldc n =>
    simp only [gm_res, Bool.and_eq_true, beq_iff_eq] at hq
    obtain ⟨q1, rfl⟩ := hq
    exact lv_ldc hx hb hown (hts _ (gm_anyK_ok q1)) hd (kk H locs ls hP hS hL)
  | ldc_w n =>
    simp only [gm_res, Bool.and_eq_true, beq_iff_eq] at hq
    obtain ⟨q1, rfl⟩ := hq
    exact lv_ldcw hx hb hown (hts _ (gm_anyK_ok q1)) hd (kk H locs ls hP hS hL)
  | _ => simp [gm_res] at hq
theorem gm_o_ldc {k : Nat} (F : gm_Fr D z E fm dA X i d p R s m args meth c) (hat : gm_at i pc = some (.ldc k, nx)) (hs : gm_stp X (gm_rt i) (.ldc k) nx L st h = some (.inl (pc', L', st', h'))) (hP : va_P D gm_cl (gm_ws z E fm dA h) H) (hS : va_S (gm_A z) s.heap H locs) (hL : gm_LR z E fm ls (gm_ml i) L)
    (kk : gm_kk D z E fm dA p l e R s m args below meth c Q (gm_ml i) cells slots pc' L' st' h') : W p l e R s m args below meth c H locs cells slots Q (F0 m pc ls (st.map (gm_cv z E fm))) := by
  obtain ⟨⟨hx, hb, hr, hml, hown⟩, hts, hlk, hnm, hE, hfr, hlo⟩ := F
  obtain ⟨real, len, hnx, hd, hq⟩ := gm_at_ok hat
  simp only [gm_stp] at hs
  split at hs
  · rename_i hk7
    simp only [gm_go, Option.some.injEq, Sum.inl.injEq, Prod.mk.injEq] at hs
    obtain ⟨rfl, rfl, rfl, rfl⟩ := hs
    subst hnx
    cases real with
    | ldc n =>
      simp only [gm_res, Bool.and_eq_true, beq_iff_eq] at hq
      obtain ⟨q1, rfl⟩ := hq
      obtain ⟨k2, hk2⟩ := gm_anyS_ok q1
      have k3 := kk H locs ls hP hS hL
      rw [List.map_cons, gm_cv_ref (by omega), gm_ad_out (30 + k) (by omega)] at k3
      obtain ⟨-, -, -, hE4, -⟩ := hE
      have hR := hE4 (gm_mc i, n, k, k2) hk2
      dsimp only at hR
      exact va_ldcS hx hb hown hR hd k3
    | _ => simp [gm_res] at hq
  · cases hs
theorem gm_o_iload {k : Nat} (F : gm_Fr D z E fm dA X i d p R s m args meth c) (hat : gm_at i pc = some (.iload k, nx)) (hs : gm_stp X (gm_rt i) (.iload k) nx L st h = some (.inl (pc', L', st', h'))) (hP : va_P D gm_cl (gm_ws z E fm dA h) H) (hS : va_S (gm_A z) s.heap H locs) (hL : gm_LR z E fm ls (gm_ml i) L)
    (kk : gm_kk D z E fm dA p l e R s m args below meth c Q (gm_ml i) cells slots pc' L' st' h') : W p l e R s m args below meth c H locs cells slots Q (F0 m pc ls (st.map (gm_cv z E fm))) := by
  obtain ⟨⟨hx, hb, hr, hml, hown⟩, hts, hlk, hnm, hE, hfr, hlo⟩ := F
  obtain ⟨real, len, hnx, hd, hq⟩ := gm_at_ok hat
  simp only [gm_stp] at hs
  split at hs
  · rename_i x hLk
    simp only [gm_go, Option.some.injEq, Sum.inl.injEq, Prod.mk.injEq] at hs
    obtain ⟨rfl, rfl, rfl, rfl⟩ := hs
    subst hnx
    have hlx := hL.get hLk rfl
    cases real with
    | iload n =>
      simp only [gm_res, Bool.and_eq_true, beq_iff_eq] at hq
      obtain ⟨rfl, rfl⟩ := hq
      exact lv_iload hx hb hd hlx (kk H locs ls hP hS hL)
    | iload_n n =>
      simp only [gm_res, Bool.and_eq_true, beq_iff_eq] at hq
      obtain ⟨q1, rfl⟩ := hq
      exact lv_iload_n hx hb hd q1 hlx (kk H locs ls hP hS hL)
    | _ => simp [gm_res] at hq
  · cases hs
theorem gm_o_aload {k : Nat} (F : gm_Fr D z E fm dA X i d p R s m args meth c) (hat : gm_at i pc = some (.aload k, nx)) (hs : gm_stp X (gm_rt i) (.aload k) nx L st h = some (.inl (pc', L', st', h'))) (hP : va_P D gm_cl (gm_ws z E fm dA h) H) (hS : va_S (gm_A z) s.heap H locs) (hL : gm_LR z E fm ls (gm_ml i) L)
    (kk : gm_kk D z E fm dA p l e R s m args below meth c Q (gm_ml i) cells slots pc' L' st' h') : W p l e R s m args below meth c H locs cells slots Q (F0 m pc ls (st.map (gm_cv z E fm))) := by
  obtain ⟨⟨hx, hb, hr, hml, hown⟩, hts, hlk, hnm, hE, hfr, hlo⟩ := F
  obtain ⟨real, len, hnx, hd, hq⟩ := gm_at_ok hat
  simp only [gm_stp] at hs
  split at hs
  · rename_i x hLk
    split at hs
    · cases hs
    · rename_i hx5
      simp only [gm_go, Option.some.injEq, Sum.inl.injEq, Prod.mk.injEq] at hs
      obtain ⟨rfl, rfl, rfl, rfl⟩ := hs
      subst hnx
      have hlx := hL.get hLk rfl
      have k3 := kk H locs ls hP hS hL
      rw [List.map_cons, gm_cv_ref hx5] at k3
      rw [gm_cv_ref hx5] at hlx
      cases real with
      | aload n =>
        simp only [gm_res, Bool.and_eq_true, beq_iff_eq] at hq
        obtain ⟨rfl, rfl⟩ := hq
        exact lv_aload hx hb hd hlx k3
      | aload_n n =>
        simp only [gm_res, Bool.and_eq_true, beq_iff_eq] at hq
        obtain ⟨q1, rfl⟩ := hq
        exact lv_aload_n hx hb hd q1 hlx k3
      | _ => simp [gm_res] at hq
  · cases hs
theorem gm_o_istore {k : Nat} (F : gm_Fr D z E fm dA X i d p R s m args meth c) (hat : gm_at i pc = some (.istore k, nx)) (hs : gm_stp X (gm_rt i) (.istore k) nx L st h = some (.inl (pc', L', st', h'))) (hP : va_P D gm_cl (gm_ws z E fm dA h) H) (hS : va_S (gm_A z) s.heap H locs) (hL : gm_LR z E fm ls (gm_ml i) L)
    (kk : gm_kk D z E fm dA p l e R s m args below meth c Q (gm_ml i) cells slots pc' L' st' h') : W p l e R s m args below meth c H locs cells slots Q (F0 m pc ls (st.map (gm_cv z E fm))) := by
  obtain ⟨⟨hx, hb, hr, hml, hown⟩, hts, hlk, hnm, hE, hfr, hlo⟩ := F
  obtain ⟨real, len, hnx, hd, hq⟩ := gm_at_ok hat
  simp only [gm_stp] at hs
  split at hs
  · rename_i x st0
    split at hs
    · rename_i hk
      simp only [gm_go, Option.some.injEq, Sum.inl.injEq, Prod.mk.injEq] at hs
      obtain ⟨rfl, rfl, rfl, rfl⟩ := hs
      subst hnx
      have hkn : k < gm_ml i := by rw [← hL.2]; exact hk
      cases real with
      | istore n =>
        simp only [gm_res, Bool.and_eq_true, beq_iff_eq] at hq
        obtain ⟨rfl, rfl⟩ := hq
        exact lv_istore hx hb hd hL.1 hkn rfl (fun ls' q => kk H locs ls' hP hS (gm_LR.put (v := .int x) hE.2.2.2.2.2.2.2.2.2.2.2.2 hL.2 hkn rfl q))
      | istore_n n =>
        simp only [gm_res, Bool.and_eq_true, beq_iff_eq] at hq
        obtain ⟨q1, rfl⟩ := hq
        exact lv_istore_n hx hb hd q1 hL.1 hkn rfl (fun ls' q => kk H locs ls' hP hS (gm_LR.put (v := .int x) hE.2.2.2.2.2.2.2.2.2.2.2.2 hL.2 hkn rfl q))
      | _ => simp [gm_res] at hq
    · cases hs
  · cases hs
theorem gm_o_astore {k : Nat} (F : gm_Fr D z E fm dA X i d p R s m args meth c) (hat : gm_at i pc = some (.astore k, nx)) (hs : gm_stp X (gm_rt i) (.astore k) nx L st h = some (.inl (pc', L', st', h'))) (hP : va_P D gm_cl (gm_ws z E fm dA h) H) (hS : va_S (gm_A z) s.heap H locs) (hL : gm_LR z E fm ls (gm_ml i) L)
    (kk : gm_kk D z E fm dA p l e R s m args below meth c Q (gm_ml i) cells slots pc' L' st' h') : W p l e R s m args below meth c H locs cells slots Q (F0 m pc ls (st.map (gm_cv z E fm))) := by
  obtain ⟨⟨hx, hb, hr, hml, hown⟩, hts, hlk, hnm, hE, hfr, hlo⟩ := F
  obtain ⟨real, len, hnx, hd, hq⟩ := gm_at_ok hat
  simp only [gm_stp] at hs
  split at hs
  · rename_i x st0
    split at hs
    · rename_i hk
      obtain ⟨hk, hx5⟩ := hk
      simp only [gm_go, Option.some.injEq, Sum.inl.injEq, Prod.mk.injEq] at hs
      obtain ⟨rfl, rfl, rfl, rfl⟩ := hs
      subst hnx
      have hkn : k < gm_ml i := by rw [← hL.2]; exact hk
      have hcv := gm_cv_ref (z := z) (E := E) (fm := fm) hx5
      rw [List.map_cons, hcv]
      cases real with
      | astore n =>
        simp only [gm_res, Bool.and_eq_true, beq_iff_eq] at hq
        obtain ⟨rfl, rfl⟩ := hq
        exact lv_astore hx hb hd hL.1 hkn rfl (fun ls' q => kk H locs ls' hP hS (gm_LR.put (v := .ref x) hE.2.2.2.2.2.2.2.2.2.2.2.2 hL.2 hkn rfl (by rw [hcv]; exact q)))
      | astore_n n =>
        simp only [gm_res, Bool.and_eq_true, beq_iff_eq] at hq
        obtain ⟨q1, rfl⟩ := hq
        exact lv_astore_n hx hb hd q1 hL.1 hkn rfl (fun ls' q => kk H locs ls' hP hS (gm_LR.put (v := .ref x) hE.2.2.2.2.2.2.2.2.2.2.2.2 hL.2 hkn rfl (by rw [hcv]; exact q)))
      | _ => simp [gm_res] at hq
    · cases hs
  · cases hs
theorem gm_o_iinc {k : Nat} {v : Int} (F : gm_Fr D z E fm dA X i d p R s m args meth c) (hat : gm_at i pc = some (.iinc k v, nx)) (hs : gm_stp X (gm_rt i) (.iinc k v) nx L st h = some (.inl (pc', L', st', h'))) (hP : va_P D gm_cl (gm_ws z E fm dA h) H) (hS : va_S (gm_A z) s.heap H locs) (hL : gm_LR z E fm ls (gm_ml i) L)
    (kk : gm_kk D z E fm dA p l e R s m args below meth c Q (gm_ml i) cells slots pc' L' st' h') : W p l e R s m args below meth c H locs cells slots Q (F0 m pc ls (st.map (gm_cv z E fm))) := by
  obtain ⟨⟨hx, hb, hr, hml, hown⟩, hts, hlk, hnm, hE, hfr, hlo⟩ := F
  obtain ⟨real, len, hnx, hd, hq⟩ := gm_at_ok hat
  simp only [gm_stp] at hs
  split at hs
  · rename_i x hLk
    simp only [gm_go, Option.some.injEq, Sum.inl.injEq, Prod.mk.injEq] at hs
    obtain ⟨rfl, rfl, rfl, rfl⟩ := hs
    subst hnx
    have hkn : k < gm_ml i := by rw [← hL.2]; exact (List.getElem?_eq_some_iff.mp hLk).1
    obtain ⟨kq, hkq⟩ := List.getElem?_of_mem (gm_lv_mem (z := z) (E := E) (fm := fm) hLk rfl)
    cases real with
    | iinc n u =>
      simp only [gm_res, Bool.and_eq_true, beq_iff_eq] at hq
      obtain ⟨rfl, rfl, rfl⟩ := hq
      exact lv_iinc hx hb hd hL.1 hkq rfl hkn rfl (fun ls' q => kk H locs ls' hP hS (gm_LR.put (v := .int (x + Int32.ofInt u)) hE.2.2.2.2.2.2.2.2.2.2.2.2 hL.2 hkn rfl q))
    | _ => simp [gm_res] at hq
  · cases hs
theorem gm_o_goto {t : Int} (F : gm_Fr D z E fm dA X i d p R s m args meth c) (hat : gm_at i pc = some (.goto t, nx)) (hs : gm_stp X (gm_rt i) (.goto t) nx L st h = some (.inl (pc', L', st', h'))) (hP : va_P D gm_cl (gm_ws z E fm dA h) H) (hS : va_S (gm_A z) s.heap H locs) (hL : gm_LR z E fm ls (gm_ml i) L)
    (kk : gm_kk D z E fm dA p l e R s m args below meth c Q (gm_ml i) cells slots pc' L' st' h') : W p l e R s m args below meth c H locs cells slots Q (F0 m pc ls (st.map (gm_cv z E fm))) := by
  obtain ⟨⟨hx, hb, hr, hml, hown⟩, hts, hlk, hnm, hE, hfr, hlo⟩ := F
  obtain ⟨real, len, hnx, hd, hq⟩ := gm_at_ok hat
  simp only [gm_stp] at hs
  simp only [gm_go, Option.some.injEq, Sum.inl.injEq, Prod.mk.injEq] at hs
  obtain ⟨rfl, rfl, rfl, rfl⟩ := hs
  cases real with
  | goto o =>
    simp only [gm_res, Bool.and_eq_true, beq_iff_eq, decide_eq_true_eq] at hq
    obtain ⟨q1, rfl⟩ := hq
    exact lv_goto hx hb hd q1 (kk H locs ls hP hS hL)
  | _ => simp [gm_res] at hq
theorem gm_o_ifCond {cd : Jvm.ClassFile.Cond} {t : Int} (F : gm_Fr D z E fm dA X i d p R s m args meth c) (hat : gm_at i pc = some (.ifCond cd t, nx)) (hs : gm_stp X (gm_rt i) (.ifCond cd t) nx L st h = some (.inl (pc', L', st', h'))) (hP : va_P D gm_cl (gm_ws z E fm dA h) H) (hS : va_S (gm_A z) s.heap H locs) (hL : gm_LR z E fm ls (gm_ml i) L)
    (kk : gm_kk D z E fm dA p l e R s m args below meth c Q (gm_ml i) cells slots pc' L' st' h') : W p l e R s m args below meth c H locs cells slots Q (F0 m pc ls (st.map (gm_cv z E fm))) := by
  obtain ⟨⟨hx, hb, hr, hml, hown⟩, hts, hlk, hnm, hE, hfr, hlo⟩ := F
  obtain ⟨real, len, hnx, hd, hq⟩ := gm_at_ok hat
  simp only [gm_stp] at hs
  split at hs
  · simp only [gm_go, Option.some.injEq, Sum.inl.injEq, Prod.mk.injEq] at hs
    obtain ⟨rfl, rfl, rfl, rfl⟩ := hs
    have k3 := kk H locs ls hP hS hL
    cases real with
    | ifCond b o =>
      simp only [gm_res, Bool.and_eq_true, beq_iff_eq, decide_eq_true_eq] at hq
      obtain ⟨rfl, q2, rfl⟩ := hq
      subst hnx
      cases b with
      | eq =>
        refine lv_if_eq hx hb hd q2 (fun q => ?_) (fun q => ?_)
        · rw [if_pos (by simpa [gm_ic] using q)] at k3; exact k3
        · rw [if_neg (by simpa [gm_ic] using q)] at k3; exact k3
      | ne =>
        refine lv_if_ne hx hb hd q2 (fun q => ?_) (fun q => ?_)
        · rw [if_pos (by simpa [gm_ic] using q)] at k3; exact k3
        · rw [if_neg (by simpa [gm_ic] using q)] at k3; exact k3
      | lt =>
        refine lv_if_lt hx hb hd q2 (fun q => ?_) (fun q => ?_)
        · rw [if_pos (by simpa [gm_ic] using q)] at k3; exact k3
        · rw [if_neg (by simpa [gm_ic] using q)] at k3; exact k3
      | ge =>
        refine lv_if_ge hx hb hd q2 (fun q => ?_) (fun q => ?_)
        · rw [if_pos (by simpa [gm_ic] using q)] at k3; exact k3
        · rw [if_neg (by simpa [gm_ic] using q)] at k3; exact k3
      | gt =>
        refine lv_if_gt hx hb hd q2 (fun q => ?_) (fun q => ?_)
        · rw [if_pos (by simpa [gm_ic] using q)] at k3; exact k3
        · rw [if_neg (by simpa [gm_ic] using q)] at k3; exact k3
      | le =>
        refine lv_if_le hx hb hd q2 (fun q => ?_) (fun q => ?_)
        · rw [if_pos (by simpa [gm_ic] using q)] at k3; exact k3
        · rw [if_neg (by simpa [gm_ic] using q)] at k3; exact k3
    | _ => simp [gm_res] at hq
  · cases hs
theorem gm_o_if_icmp {cd : Jvm.ClassFile.Cond} {t : Int} (F : gm_Fr D z E fm dA X i d p R s m args meth c) (hat : gm_at i pc = some (.if_icmp cd t, nx)) (hs : gm_stp X (gm_rt i) (.if_icmp cd t) nx L st h = some (.inl (pc', L', st', h'))) (hP : va_P D gm_cl (gm_ws z E fm dA h) H) (hS : va_S (gm_A z) s.heap H locs) (hL : gm_LR z E fm ls (gm_ml i) L)
    (kk : gm_kk D z E fm dA p l e R s m args below meth c Q (gm_ml i) cells slots pc' L' st' h') : W p l e R s m args below meth c H locs cells slots Q (F0 m pc ls (st.map (gm_cv z E fm))) := by
  obtain ⟨⟨hx, hb, hr, hml, hown⟩, hts, hlk, hnm, hE, hfr, hlo⟩ := F
  obtain ⟨real, len, hnx, hd, hq⟩ := gm_at_ok hat
  simp only [gm_stp] at hs
  split at hs
  · simp only [gm_go, Option.some.injEq, Sum.inl.injEq, Prod.mk.injEq] at hs
    obtain ⟨rfl, rfl, rfl, rfl⟩ := hs
    have k3 := kk H locs ls hP hS hL
    cases real with
    | if_icmp b o =>
      simp only [gm_res, Bool.and_eq_true, beq_iff_eq, decide_eq_true_eq] at hq
      obtain ⟨rfl, q2, rfl⟩ := hq
      subst hnx
      cases b with
      | eq =>
        refine lv_icmp_eq hx hb hd q2 (fun q => ?_) (fun q => ?_)
        · rw [if_pos (by simpa [gm_ic] using q)] at k3; exact k3
        · rw [if_neg (by simpa [gm_ic] using q)] at k3; exact k3
      | ne =>
        refine lv_icmp_ne hx hb hd q2 (fun q => ?_) (fun q => ?_)
        · rw [if_pos (by simpa [gm_ic] using q)] at k3; exact k3
        · rw [if_neg (by simpa [gm_ic] using q)] at k3; exact k3
      | lt =>
        refine lv_icmp_lt hx hb hd q2 (fun q => ?_) (fun q => ?_)
        · rw [if_pos (by simpa [gm_ic] using q)] at k3; exact k3
        · rw [if_neg (by simpa [gm_ic] using q)] at k3; exact k3
      | ge =>
        refine lv_icmp_ge hx hb hd q2 (fun q => ?_) (fun q => ?_)
        · rw [if_pos (by simpa [gm_ic] using q)] at k3; exact k3
        · rw [if_neg (by simpa [gm_ic] using q)] at k3; exact k3
      | gt =>
        refine lv_icmp_gt hx hb hd q2 (fun q => ?_) (fun q => ?_)
        · rw [if_pos (by simpa [gm_ic] using q)] at k3; exact k3
        · rw [if_neg (by simpa [gm_ic] using q)] at k3; exact k3
      | le =>
        refine lv_icmp_le hx hb hd q2 (fun q => ?_) (fun q => ?_)
        · rw [if_pos (by simpa [gm_ic] using q)] at k3; exact k3
        · rw [if_neg (by simpa [gm_ic] using q)] at k3; exact k3
    | _ => simp [gm_res] at hq
  · cases hs
theorem gm_o_switch {dd : Int} {ps : Array (Int × Int)} (F : gm_Fr D z E fm dA X i d p R s m args meth c) (hat : gm_at i pc = some (.lookupswitch dd ps, nx)) (hs : gm_stp X (gm_rt i) (.lookupswitch dd ps) nx L st h = some (.inl (pc', L', st', h'))) (hP : va_P D gm_cl (gm_ws z E fm dA h) H) (hS : va_S (gm_A z) s.heap H locs) (hL : gm_LR z E fm ls (gm_ml i) L)
    (kk : gm_kk D z E fm dA p l e R s m args below meth c Q (gm_ml i) cells slots pc' L' st' h') : W p l e R s m args below meth c H locs cells slots Q (F0 m pc ls (st.map (gm_cv z E fm))) := by
  obtain ⟨⟨hx, hb, hr, hml, hown⟩, hts, hlk, hnm, hE, hfr, hlo⟩ := F
  obtain ⟨real, len, hnx, hd, hq⟩ := gm_at_ok hat
  simp only [gm_stp] at hs
  split at hs
  · rename_i x st0
    simp only [gm_go, Option.some.injEq, Sum.inl.injEq, Prod.mk.injEq] at hs
    obtain ⟨rfl, rfl, rfl, rfl⟩ := hs
    have k3 := kk H locs ls hP hS hL
    cases real with
    | tableswitch d0 lo hi offs =>
      simp only [gm_res, Bool.and_eq_true, decide_eq_true_eq] at hq
      obtain ⟨q1, q2, q3, q4, q5⟩ := hq
      have hnn := gm_sw_nn (x := x.toInt) q4 q5
      obtain ⟨t1, t2⟩ := gm_sw_tb pc dd x.toInt offs.toList lo
      rw [q2] at hnn k3
      by_cases qo : x.toInt < lo ∨ hi < x.toInt
      · refine lv_tableOut hx hb hd qo (tgt := (gm_sw dd x.toInt (gm_tb pc lo offs.toList)).toNat) ?_ k3
        have e1 := t1 (by rw [q3] at qo; exact qo)
        rw [e1] at hnn ⊢
        omega
      · obtain ⟨o, e1, e2⟩ := t2 (fun y => qo (Or.inl y)) (fun y => qo (Or.inr (by rw [q3]; exact y)))
        refine lv_tableIn hx hb hd (fun y => qo (Or.inl y)) (fun y => qo (Or.inr y)) (off := o) (tgt := (gm_sw dd x.toInt (gm_tb pc lo offs.toList)).toNat) (by rw [← Array.getElem?_toList]; exact e1) ?_ k3
        rw [e2] at hnn ⊢
        omega
    | lookupswitch d0 qs =>
      simp only [gm_res, Bool.and_eq_true, decide_eq_true_eq] at hq
      obtain ⟨q1, q2, q3, q4, q5⟩ := hq
      have hnn := gm_sw_nn (x := x.toInt) q4 q5
      have e1 := gm_sw_lk (pc : Int) d0 x.toInt qs.toList
      rw [q2] at hnn k3
      rw [← q1] at hnn k3
      refine lv_lookup hx hb hd q3 rfl (tgt := (gm_sw ((pc : Int) + d0) x.toInt (qs.toList.map (fun q => (q.1, (pc : Int) + q.2)))).toNat) ?_ k3
      rw [e1] at hnn ⊢
      omega
    | _ => simp [gm_res] at hq
  · cases hs
end GM6
