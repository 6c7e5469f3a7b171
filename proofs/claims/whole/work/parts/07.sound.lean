-- THE MACHINE IS SOUND: what gm_run answers, the JVM answers
def gm_al (op : Instr) : Bool := match op with
  | .new _ => true
  | .newarray _ => true
  | .anewarray _ => true
  | .multianewarray _ _ => true
  | _ => false
theorem gm_cal_inl {j nx : Nat} {st : List Value} {q : Nat × List Value × List Value × gm_H} (hs : gm_cal j nx st = some (.inl q)) : False := by
  unfold gm_cal at hs
  split at hs <;> cases hs
section GM7
variable {z : Nat} {E : Nat → Nat} {fm : Value} {dA : Nat → ClassId} {D : va_G} {X : List Int32}
variable {p : Program} {l : Launch} {e : Env} {R : Room} {s : State} {m : MethodId} {args : Array Value} {below : List Frame} {meth : Method} {c : Code} {Q : State → Prop} {H : Heap} {locs : List Loc} {cells slots : Nat} {ls : Array Slot} {i d pc pc' nx : Nat} {L st L' st' : List Value} {h h' : gm_H}
set_option maxHeartbeats 4000000 in
theorem gm_next {op : Instr} (F : gm_Fr D z E fm dA X i d p R s m args meth c) (hat : gm_at i pc = some (op, nx)) (hal : gm_al op = false) (hs : gm_stp X (gm_rt i) op nx L st h = some (.inl (pc', L', st', h'))) (hP : va_P D gm_cl (gm_ws z E fm dA h) H) (hS : va_S (gm_A z) s.heap H locs) (hL : gm_LR z E fm ls (gm_ml i) L)
    (kk : gm_kk D z E fm dA p l e R s m args below meth c Q (gm_ml i) cells slots pc' L' st' h') : W p l e R s m args below meth c H locs cells slots Q (F0 m pc ls (st.map (gm_cv z E fm))) := by
  cases op with
  | iconst v => exact gm_o_iconst F hat hs hP hS hL kk
  | ldc k => exact gm_o_ldc F hat hs hP hS hL kk
  | iload k => exact gm_o_iload F hat hs hP hS hL kk
  | aload k => exact gm_o_aload F hat hs hP hS hL kk
  | istore k => exact gm_o_istore F hat hs hP hS hL kk
  | astore k => exact gm_o_astore F hat hs hP hS hL kk
  | iinc k v => exact gm_o_iinc F hat hs hP hS hL kk
  | iadd => exact gm_o_iadd F hat hs hP hS hL kk
  | isub => exact gm_o_isub F hat hs hP hS hL kk
  | imul => exact gm_o_imul F hat hs hP hS hL kk
  | iand => exact gm_o_iand F hat hs hP hS hL kk
  | ishr => exact gm_o_ishr F hat hs hP hS hL kk
  | iushr => exact gm_o_iushr F hat hs hP hS hL kk
  | idiv => exact gm_o_idiv F hat hs hP hS hL kk
  | irem => exact gm_o_irem F hat hs hP hS hL kk
  | ineg => exact gm_o_ineg F hat hs hP hS hL kk
  | i2s => exact gm_o_i2s F hat hs hP hS hL kk
  | i2c => exact gm_o_i2c F hat hs hP hS hL kk
  | i2b => exact gm_o_i2b F hat hs hP hS hL kk
  | i2l => exact gm_o_i2l F hat hs hP hS hL kk
  | ladd => exact gm_o_ladd F hat hs hP hS hL kk
  | lcmp => exact gm_o_lcmp F hat hs hP hS hL kk
  | dup => exact gm_o_dup F hat hs hP hS hL kk
  | dup2 => exact gm_o_dup2 F hat hs hP hS hL kk
  | pop => exact gm_o_pop F hat hs hP hS hL kk
  | goto t => exact gm_o_goto F hat hs hP hS hL kk
  | ifCond cd t => exact gm_o_ifCond F hat hs hP hS hL kk
  | if_icmp cd t => exact gm_o_if_icmp F hat hs hP hS hL kk
  | lookupswitch dd ps => exact gm_o_switch F hat hs hP hS hL kk
  | getfield f => exact gm_o_getfield F hat hs hP hS hL kk
  | putfield f => exact gm_o_putfield F hat hs hP hS hL kk
  | putstatic f => exact gm_o_putstatic F hat hs hP hS hL kk
  | getstatic k => exact gm_o_getstatic F hat hs hP hS hL kk
  | iaload => exact gm_o_iaload F hat hs hP hS hL kk
  | baload => exact gm_o_baload F hat hs hP hS hL kk
  | iastore => exact gm_o_iastore F hat hs hP hS hL kk
  | aaload => exact gm_o_aaload F hat hs hP hS hL kk
  | aastore => exact gm_o_aastore F hat hs hP hS hL kk
  | arraylength => exact gm_o_arraylength F hat hs hP hS hL kk
  | invokedynamic k => exact gm_o_arraycopy F hat hs hP hS hL kk
  | invokespecial j =>
    by_cases hj : j = 9999
    · subst hj
      exact gm_o_objinit F hat hs hP hS hL kk
    · simp only [gm_stp, if_neg hj] at hs
      split at hs
      · split at hs
        · exact (gm_cal_inl hs).elim
        · cases hs
      · cases hs
  | invokestatic j => exact (gm_cal_inl hs).elim
  | invokeinterface j k => exact (gm_cal_inl hs).elim
  | invokevirtual j =>
    simp only [gm_stp] at hs
    split at hs
    · split at hs
      · exact (gm_cal_inl hs).elim
      · cases hs
    · cases hs
  | ireturn =>
    simp only [gm_stp] at hs
    split at hs
    · split at hs
      · split at hs <;> cases hs
      · cases hs
    · cases hs
  | return_ =>
    simp only [gm_stp] at hs
    split at hs <;> cases hs
  | new k => cases hal
  | newarray k => cases hal
  | anewarray k => cases hal
  | multianewarray a b => cases hal
  | _ => cases hs
theorem gm_pf_keep {a f : Nat} {v : Value} (hs : gm_pf h a f v = some h') : h'.length = h.length ∧ gm_sl h' = gm_sl h := by
  unfold gm_pf at hs
  split at hs
  · split at hs
    · rename_i c0 fs hc
      split at hs
      · cases hs
        exact ⟨List.length_set, gm_sl_set hc (by show (fs.set _ _).length = fs.length; exact List.length_set)⟩
      · cases hs
    · cases hs
  · cases hs
theorem gm_ias_keep {a : Nat} {j v : Int32} (hs : gm_ias h a j v = some h') : h'.length = h.length ∧ gm_sl h' = gm_sl h := by
  unfold gm_ias at hs
  split at hs
  · split at hs
    · rename_i t xs hc
      split at hs
      · cases hs
        exact ⟨List.length_set, gm_sl_set hc (by show (xs.set _ _).length = xs.length; exact List.length_set)⟩
      · cases hs
    · cases hs
  · cases hs
theorem gm_aas_keep {a r : Nat} {j : Int32} (hs : gm_aas h a j r = some h') : h'.length = h.length ∧ gm_sl h' = gm_sl h := by
  unfold gm_aas at hs
  split at hs
  · split at hs
    · rename_i t xs hc
      split at hs
      · cases hs
        exact ⟨List.length_set, gm_sl_set hc (by show (xs.set _ _).length = xs.length; exact List.length_set)⟩
      · cases hs
    · cases hs
  · cases hs
theorem gm_acp_keep {a b : Nat} {x y n : Int32} (hs : gm_acp h a x b y n = some h') : h'.length = h.length ∧ gm_sl h' = gm_sl h := by
  unfold gm_acp at hs
  split at hs
  · split at hs
    · rename_i t xs u ys hc1 hc2
      split at hs
      · cases hs
        exact ⟨List.length_set, gm_sl_set hc2 (by show (gm_cpy _ _ _ _ _).length = ys.length; simp [gm_cpy])⟩
      · cases hs
    · cases hs
  · cases hs
theorem gm_go_keep {a pc' : Nat} {L st L' st' : List Value} (hs : gm_go a L st h = some (.inl (pc', L', st', h'))) : h'.length = h.length ∧ gm_sl h' = gm_sl h := by
  simp only [gm_go, Option.some.injEq, Sum.inl.injEq, Prod.mk.injEq] at hs
  obtain ⟨-, -, -, rfl⟩ := hs
  exact ⟨rfl, rfl⟩
theorem gm_go_keep2 {a pc' : Nat} {L st L' st' : List Value} {h2 : gm_H} (hs : gm_go a L st h2 = some (.inl (pc', L', st', h'))) : h' = h2 := by
  simp only [gm_go, Option.some.injEq, Sum.inl.injEq, Prod.mk.injEq] at hs
  exact hs.2.2.2.symm
set_option maxHeartbeats 4000000 in
theorem gm_keep {op : Instr} {rt : Option FieldType} (hal : gm_al op = false) (hs : gm_stp X rt op nx L st h = some (.inl (pc', L', st', h'))) : h'.length = h.length ∧ gm_sl h' = gm_sl h := by
  cases op with
  | putfield f =>
    simp only [gm_stp] at hs
    split at hs
    · split at hs
      · rename_i h2 hp
        rw [gm_go_keep2 hs]
        exact gm_pf_keep hp
      · cases hs
    · cases hs
  | putstatic f =>
    simp only [gm_stp] at hs
    split at hs
    · split at hs
      · rename_i h2 hp
        rw [gm_go_keep2 hs]
        exact gm_pf_keep hp
      · cases hs
    · cases hs
  | iastore =>
    simp only [gm_stp] at hs
    split at hs
    · split at hs
      · rename_i h2 hp
        rw [gm_go_keep2 hs]
        exact gm_ias_keep hp
      · cases hs
    · cases hs
  | aastore =>
    simp only [gm_stp] at hs
    split at hs
    · split at hs
      · rename_i h2 hp
        rw [gm_go_keep2 hs]
        exact gm_aas_keep hp
      · cases hs
    · cases hs
  | invokedynamic k =>
    simp only [gm_stp] at hs
    split at hs
    · split at hs
      · split at hs
        · rename_i h2 hp
          rw [gm_go_keep2 hs]
          exact gm_acp_keep hp
        · cases hs
      · cases hs
    · cases hs
  | new k => cases hal
  | newarray k => cases hal
  | anewarray k => cases hal
  | multianewarray a b => cases hal
  | invokestatic j => exact (gm_cal_inl hs).elim
  | invokeinterface j k => exact (gm_cal_inl hs).elim
  | iadd =>
    simp only [gm_stp, gm_st2] at hs
    split at hs
    · exact gm_go_keep hs
    · cases hs
  | isub =>
    simp only [gm_stp, gm_st2] at hs
    split at hs
    · exact gm_go_keep hs
    · cases hs
  | imul =>
    simp only [gm_stp, gm_st2] at hs
    split at hs
    · exact gm_go_keep hs
    · cases hs
  | iand =>
    simp only [gm_stp, gm_st2] at hs
    split at hs
    · exact gm_go_keep hs
    · cases hs
  | ishr =>
    simp only [gm_stp, gm_st2] at hs
    split at hs
    · exact gm_go_keep hs
    · cases hs
  | iushr =>
    simp only [gm_stp, gm_st2] at hs
    split at hs
    · exact gm_go_keep hs
    · cases hs
  | ineg =>
    simp only [gm_stp, gm_st1] at hs
    split at hs
    · exact gm_go_keep hs
    · cases hs
  | i2s =>
    simp only [gm_stp, gm_st1] at hs
    split at hs
    · exact gm_go_keep hs
    · cases hs
  | i2c =>
    simp only [gm_stp, gm_st1] at hs
    split at hs
    · exact gm_go_keep hs
    · cases hs
  | i2b =>
    simp only [gm_stp, gm_st1] at hs
    split at hs
    · exact gm_go_keep hs
    · cases hs
  | _ =>
    simp only [gm_stp] at hs
    first
      | exact gm_go_keep hs
      | (cases hs; done)
      | ((repeat' split at hs) <;> first | exact gm_go_keep hs | exact (gm_cal_inl hs).elim | cases hs)
end GM7
