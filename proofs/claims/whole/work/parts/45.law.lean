-- the law
theorem gm_ix_nil {i : Int32} : gm_ix [] i = none := by
  unfold gm_ix
  rw [if_pos (.inr (Nat.zero_le _))]
theorem gm_ial_X {X : List Int32} {h : gm_H} {a : Nat} {i v : Int32} (hx : gm_ial [] h a i = some v) : gm_ial X h a i = some v := by
  unfold gm_ial at hx ⊢
  by_cases h1 : a < 10000
  · rw [if_pos h1] at hx ⊢
    exact hx
  · rw [if_neg h1] at hx ⊢
    by_cases h2 : a = 10000
    · rw [if_pos h2, gm_ix_nil] at hx
      cases hx
    · rw [if_neg h2] at hx ⊢
      exact hx
set_option maxHeartbeats 4000000 in
theorem gm_stp_X {X : List Int32} {rt : Option FieldType} {op : Instr} {nx : Nat} {L st : List Value} {h : gm_H} {q : gm_N} (ho : op ≠ .arraylength) (hs : gm_stp [] rt op nx L st h = some q) : gm_stp X rt op nx L st h = some q := by
  cases op with
  | arraylength => exact absurd rfl ho
  | iaload =>
    simp only [gm_stp] at hs ⊢
    split at hs
    · rename_i i a st0
      cases hx : gm_ial [] h a i with
      | none => rw [hx] at hs; cases hs
      | some v =>
        rw [hx] at hs
        rw [gm_ial_X hx]
        exact hs
    · cases hs
  | _ => exact hs
set_option maxHeartbeats 16000000 in
theorem gm_stp_call {X : List Int32} {rt : Option FieldType} {op : Instr} {nx j nx' : Nat} {L st as rest : List Value} {h : gm_H} (hs : gm_stp X rt op nx L st h = some (.inr (.inr (j, nx', as, rest)))) : op = .invokevirtual j ∨ op = .invokestatic j ∨ (op = .invokespecial j ∧ ¬ j = 9999) ∨ ∃ k, op = .invokeinterface j k := by
  cases op with
  | invokevirtual k =>
    simp only [gm_stp, gm_cal] at hs
    repeat' split at hs
    all_goals first | (cases hs; done) | (simp only [Option.some.injEq, Sum.inr.injEq, Prod.mk.injEq] at hs; exact .inl (by rw [hs.1]))
  | invokestatic k =>
    simp only [gm_stp, gm_cal] at hs
    repeat' split at hs
    all_goals first | (cases hs; done) | (simp only [Option.some.injEq, Sum.inr.injEq, Prod.mk.injEq] at hs; exact .inr (.inl (by rw [hs.1])))
  | invokespecial k =>
    simp only [gm_stp, gm_cal, gm_go] at hs
    by_cases hk : k = 9999
    · rw [if_pos hk] at hs
      repeat' split at hs
      all_goals first | (cases hs; done) | (simp at hs; done)
    · rw [if_neg hk] at hs
      repeat' split at hs
      all_goals first | (cases hs; done) | (simp only [Option.some.injEq, Sum.inr.injEq, Prod.mk.injEq] at hs; exact .inr (.inr (.inl ⟨by rw [hs.1], by rw [← hs.1]; exact hk⟩)))
  | invokeinterface k m =>
    simp only [gm_stp, gm_cal] at hs
    repeat' split at hs
    all_goals first | (cases hs; done) | (simp only [Option.some.injEq, Sum.inr.injEq, Prod.mk.injEq] at hs; exact .inr (.inr (.inr ⟨m, by rw [hs.1]⟩)))
  | _ =>
    exfalso
    simp only [gm_stp, gm_st1, gm_st2, gm_go] at hs
    first
      | (cases hs; done)
      | ((repeat' split at hs) <;> first | (cases hs; done) | (simp at hs; done))
theorem gz_at_ok {i pc nx : Nat} {op : Instr} (hi : gt_S.contains i = true) (ha : gm_at i pc = some (op, nx)) : ∃ e : gm_CE, e.2.2.2 = op ∧ gt_ok1 e = true := by
  unfold gm_at at ha
  rw [Option.map_eq_some_iff] at ha
  obtain ⟨e, he, h2⟩ := ha
  refine ⟨e, (Prod.mk.injEq _ _ _ _ ▸ h2).1, ?_⟩
  have h3 := List.all_eq_true.mp gt_S_ok i (List.contains_iff_mem.mp hi)
  exact List.all_eq_true.mp h3 e (List.mem_of_find?_eq_some he)
theorem gm_run_X {X : List Int32} : ∀ (n d i pc : Nat) (L st : List Value) (h : gm_H) (x : Option Value × gm_H), gt_S.contains i = true → gm_run [] n d i pc L st h = some x → gm_run X n d i pc L st h = some x := by
  intro n
  induction n with
  | zero => intro d i pc L st h x _ hx; simp [gm_run] at hx
  | succ n ih =>
    intro d i pc L st h x hi hx
    unfold gm_run at hx ⊢
    cases ha : gm_at i pc with
    | none => simp [ha] at hx
    | some q =>
      obtain ⟨op, nx⟩ := q
      obtain ⟨e, he, hok⟩ := gz_at_ok hi ha
      simp only [ha] at hx ⊢
      have hne : op ≠ .arraylength := by
        intro y
        unfold gt_ok1 at hok
        rw [he, y] at hok
        cases hok
      cases hs : gm_stp [] (gm_rt i) op nx L st h with
      | none => simp [hs] at hx
      | some q =>
        have hs' := gm_stp_X (X := X) hne hs
        simp only [hs] at hx
        simp only [hs']
        match q, hx, hs with
        | .inl (pc', L', st', h'), hx, hs => exact ih _ _ _ _ _ _ _ hi hx
        | .inr (.inl r), hx, hs => exact hx
        | .inr (.inr (j, nx', as, rest)), hx, hs =>
          have hj : gt_S.contains j = true := by
            unfold gt_ok1 at hok
            rw [he] at hok
            rcases gm_stp_call hs with y | y | ⟨y, y2⟩ | ⟨k, y⟩
            · rw [y] at hok; exact hok
            · rw [y] at hok; exact hok
            · rw [y] at hok
              have hok : (j == 9999 || gt_S.contains j) = true := hok
              rw [Bool.or_eq_true, beq_iff_eq] at hok
              exact hok.resolve_left y2
            · rw [y] at hok; exact hok
          cases d with
          | zero => simp at hx
          | succ d =>
            simp only at hx ⊢
            cases hc : gm_run [] n d j 0 (gm_ent j as) [] h with
            | none => simp [hc] at hx
            | some y =>
              obtain ⟨r, h'⟩ := y
              simp only [hc] at hx
              rw [ih _ _ _ _ _ _ _ hj hc]
              exact ih _ _ _ _ _ _ _ hi hx
theorem gm_run_d {X : List Int32} : ∀ (n d i pc : Nat) (L st : List Value) (h : gm_H) (x : Option Value × gm_H), gm_run X n d i pc L st h = some x → gm_run X n (d + 1) i pc L st h = some x := by
  intro n
  induction n with
  | zero => intro d i pc L st h x hx; simp [gm_run] at hx
  | succ n ih =>
    intro d i pc L st h x hx
    unfold gm_run at hx ⊢
    cases ha : gm_at i pc with
    | none => simp [ha] at hx
    | some q =>
      obtain ⟨op, nx⟩ := q
      simp only [ha] at hx ⊢
      cases hs : gm_stp X (gm_rt i) op nx L st h with
      | none => simp [hs] at hx
      | some q =>
        simp only [hs] at hx ⊢
        match q, hx with
        | .inl (pc', L', st', h'), hx => exact ih _ _ _ _ _ _ _ hx
        | .inr (.inl r), hx => exact hx
        | .inr (.inr (j, nx', as, rest)), hx =>
          cases d with
          | zero => simp at hx
          | succ d =>
            simp only at hx ⊢
            cases hc : gm_run X n d j 0 (gm_ent j as) [] h with
            | none => simp [hc] at hx
            | some y =>
              obtain ⟨r, h'⟩ := y
              simp only [hc] at hx
              rw [ih _ _ _ _ _ _ _ hc]
              exact ih _ _ _ _ _ _ _ hx
theorem gm_run_dd {X : List Int32} {n d i pc : Nat} {L st : List Value} {h : gm_H} {x : Option Value × gm_H} (hx : gm_run X n d i pc L st h = some x) : ∀ k, gm_run X n (d + k) i pc L st h = some x
  | 0 => hx
  | k + 1 => gm_run_d _ _ _ _ _ _ _ _ (gm_run_dd hx k)
theorem con1 {X : List Int32} {d : Nat} : gm_cl' X (d + 10) 57 [.ref 0] [.inr (8, gm_new 8)] = some (none, (gt_h gt_m0).take 116) := by
  unfold gm_cl'
  rw [gm_ev_iff]
  refine ⟨3000, ?_⟩
  rw [Nat.add_comm]
  exact gm_run_dd (gm_run_X _ _ _ _ _ _ _ _ (by decide) gt_con1) d
theorem con2 {X : List Int32} {d : Nat} : gm_cl' X (d + 10) 114 [.ref 116] ((gt_h gt_m0).take 116 ++ [.inr (9, gm_new 9)]) = some (none, gt_h gt_m0) := by
  unfold gm_cl'
  rw [gm_ev_iff]
  refine ⟨3000, ?_⟩
  rw [Nat.add_comm]
  exact gm_run_dd (gm_run_X _ _ _ _ _ _ _ _ (by decide) gt_con2) d
theorem Inv_m0 : Inv gt_m0 := by
  refine ⟨⟨0, 0, 0, ?_, ?_, rfl, by omega, fun t ht => absurd ht (Nat.not_lt_zero _), fun j hj => ?_⟩, .inl ⟨rfl, rfl⟩, fun s hs => ?_, fun s hs => ?_, ⟨0, by omega, rfl, rfl, fun k hk => absurd hk (Nat.not_lt_zero _)⟩, ⟨0, by omega, rfl, rfl, fun k hk => absurd hk (Nat.not_lt_zero _)⟩⟩
  · intro o ho
    have h13 : o < 13 := by omega
    have : o = 0 ∨ o = 1 ∨ o = 2 ∨ o = 3 ∨ o = 4 ∨ o = 5 ∨ o = 6 ∨ o = 7 ∨ o = 8 ∨ o = 9 ∨ o = 10 ∨ o = 11 ∨ o = 12 := by omega
    rcases this with rfl | rfl | rfl | rfl | rfl | rfl | rfl | rfl | rfl | rfl | rfl | rfl | rfl <;> rfl
  · refine ⟨⟨by omega, by omega, rfl, rfl, fun j hj => absurd hj (Nat.not_lt_zero _)⟩, fun i hi => absurd hi (Nat.not_lt_zero _), fun j hj => absurd hj (Nat.not_lt_zero _), ?_, ?_⟩
    · show 0 ≤ (0 : Int32).toInt
      decide
    · show (0 : Int32).toInt ≤ _
      decide
  · have : j = 0 ∨ j = 1 ∨ j = 2 := by omega
    rcases this with rfl | rfl | rfl <;> exact .inl ⟨rfl, rfl⟩
  · have : s = 0 ∨ s = 1 ∨ s = 2 ∨ s = 3 := by omega
    have z49 : ∀ o, gt_m0 49 o = nI 0 := fun o => rfl
    rcases this with rfl | rfl | rfl | rfl
    all_goals
      refine ⟨rfl, ⟨0, by omega, rfl, rfl⟩, .inl rfl, fun k hk => ⟨?_, by rw [z49]; exact pV_0⟩⟩
      rw [z49]
      have : k = 0 ∨ k = 1 ∨ k = 2 ∨ k = 3 ∨ k = 4 ∨ k = 5 ∨ k = 6 ∨ k = 7 ∨ k = 8 ∨ k = 9 ∨ k = 10 ∨ k = 11 ∨ k = 12 ∨ k = 13 ∨ k = 14 ∨ k = 15 ∨ k = 16 ∨ k = 17 ∨ k = 18 ∨ k = 19 ∨ k = 20 ∨ k = 21 ∨ k = 22 ∨ k = 23 := by omega
      rcases this with rfl | rfl | rfl | rfl | rfl | rfl | rfl | rfl | rfl | rfl | rfl | rfl | rfl | rfl | rfl | rfl | rfl | rfl | rfl | rfl | rfl | rfl | rfl | rfl <;> rfl
  · have : s = 0 ∨ s = 1 ∨ s = 2 ∨ s = 3 ∨ s = 4 := by omega
    rcases this with rfl | rfl | rfl | rfl | rfl
    all_goals exact ⟨0, by omega, rfl, rfl, fun h => absurd h (by omega), fun h => absurd h (by omega), fun h => absurd h (by omega)⟩
theorem gm_sl_u {u u' : gt_M} : gm_sl (gt_h u) = gm_sl (gt_h u') := by
  unfold gm_sl gt_h
  rw [List.map_map, List.map_map]
  refine congrArg List.sum (List.map_congr_left fun q _ => ?_)
  show gm_sz (gt_in u q) = gm_sz (gt_in u' q)
  match q with
  | .inl (c, b, o, fs) =>
    show (fs.map (gt_fv u b o)).length = (fs.map (gt_fv u' b o)).length
    rw [List.length_map, List.length_map]
  | .inr (.inl (b, o, n)) =>
    show ((List.range n).map (fun k => u b (o + k))).length = ((List.range n).map (fun k => u' b (o + k))).length
    rw [List.length_map, List.length_map]
  | .inr (.inr (t, rs)) => rfl
theorem gm_sl_m0 : gm_sl (gt_h gt_m0) ≤ 7302250 := Nat.le_of_ble_eq_true (by decide +kernel)
theorem gt_h_len {u : gt_M} : (gt_h u).length = 133 := by
  unfold gt_h
  rw [List.length_map]
  decide +kernel
theorem gm_sw_P {P : Int → Prop} {dd x : Int} (hd : P dd) : ∀ l : List (Int × Int), l.foldr (fun kt q => P kt.2 ∧ q) True → P (gm_sw dd x l)
  | [], _ => hd
  | (k, t) :: r, h => by
    show P (if x = k then t else gm_sw dd x r)
    split
    · exact h.1
    · exact gm_sw_P hd r h.2
def lwz_tbl : List (Int × Int) := [(0, 216), (1, 259), (2, 292), (3, 325), (4, 358), (5, 391), (6, 434), (7, 457), (8, 490), (9, 523), (10, 546), (11, 569), (12, 602), (13, 625), (14, 648), (15, 671), (16, 704), (17, 717), (18, 760), (19, 793), (20, 826), (21, 849), (22, 892), (23, 905), (24, 948), (25, 971), (26, 984), (27, 1017), (28, 1040), (29, 1083), (30, 1126), (31, 1149), (32, 1172), (33, 1235), (34, 1278), (35, 1311), (36, 1344), (37, 1377), (38, 1400), (39, 1423), (40, 1436), (41, 1449)]
theorem bk_223_18 {X : List Int32} {d : Nat} {L st : List Value} {h : gm_H} : gm_ev X d 223 18 L st h = gm_bl X d 223 216 [.iload 3, .aload 0, .arraylength, .iconst (6), .isub, .if_icmp .gt (1478), .aload 0, .iload 3, .iaload, .iconst (63), .iand, .lookupswitch (1472) #[(0, 216), (1, 259), (2, 292), (3, 325), (4, 358), (5, 391), (6, 434), (7, 457), (8, 490), (9, 523), (10, 546), (11, 569), (12, 602), (13, 625), (14, 648), (15, 671), (16, 704), (17, 717), (18, 760), (19, 793), (20, 826), (21, 849), (22, 892), (23, 905), (24, 948), (25, 971), (26, 984), (27, 1017), (28, 1040), (29, 1083), (30, 1126), (31, 1149), (32, 1172), (33, 1235), (34, 1278), (35, 1311), (36, 1344), (37, 1377), (38, 1400), (39, 1423), (40, 1436), (41, 1449)]] L st h := gm_bl_ok (by decide +kernel)
theorem bk_223_216 {X : List Int32} {d : Nat} {L st : List Value} {h : gm_H} : gm_ev X d 223 216 L st h = gm_bl X d 223 259 [.aload 1, .aload 0, .iload 3, .iconst (1), .iadd, .iaload, .aload 0, .iload 3, .iconst (2), .iadd, .iaload, .aload 0, .iload 3, .iconst (3), .iadd, .iaload, .invokevirtual 58, .aload 2, .aload 0, .iload 3, .iconst (1), .iadd, .iaload, .aload 0, .iload 3, .iconst (2), .iadd, .iaload, .aload 0, .iload 3, .iconst (3), .iadd, .iaload, .invokevirtual 126, .if_icmp .eq (1472), .iconst (0), .ireturn] L st h := gm_bl_ok (by decide +kernel)
theorem bk_223_259 {X : List Int32} {d : Nat} {L st : List Value} {h : gm_H} : gm_ev X d 223 259 L st h = gm_bl X d 223 292 [.aload 1, .aload 0, .iload 3, .iconst (1), .iadd, .iaload, .aload 0, .iload 3, .iconst (2), .iadd, .iaload, .invokevirtual 59, .aload 2, .aload 0, .iload 3, .iconst (1), .iadd, .iaload, .aload 0, .iload 3, .iconst (2), .iadd, .iaload, .invokevirtual 134, .if_icmp .eq (1472), .iconst (0), .ireturn] L st h := gm_bl_ok (by decide +kernel)
theorem bk_223_292 {X : List Int32} {d : Nat} {L st : List Value} {h : gm_H} : gm_ev X d 223 292 L st h = gm_bl X d 223 325 [.aload 1, .aload 0, .iload 3, .iconst (1), .iadd, .iaload, .aload 0, .iload 3, .iconst (2), .iadd, .iaload, .invokevirtual 60, .aload 2, .aload 0, .iload 3, .iconst (1), .iadd, .iaload, .aload 0, .iload 3, .iconst (2), .iadd, .iaload, .invokevirtual 135, .if_icmp .eq (1472), .iconst (0), .ireturn] L st h := gm_bl_ok (by decide +kernel)
theorem bk_223_325 {X : List Int32} {d : Nat} {L st : List Value} {h : gm_H} : gm_ev X d 223 325 L st h = gm_bl X d 223 358 [.aload 1, .aload 0, .iload 3, .iconst (1), .iadd, .iaload, .aload 0, .iload 3, .iconst (2), .iadd, .iaload, .invokevirtual 61, .aload 2, .aload 0, .iload 3, .iconst (1), .iadd, .iaload, .aload 0, .iload 3, .iconst (2), .iadd, .iaload, .invokevirtual 136, .if_icmp .eq (1472), .iconst (0), .ireturn] L st h := gm_bl_ok (by decide +kernel)
theorem bk_223_358 {X : List Int32} {d : Nat} {L st : List Value} {h : gm_H} : gm_ev X d 223 358 L st h = gm_bl X d 223 391 [.aload 1, .aload 0, .iload 3, .iconst (1), .iadd, .iaload, .aload 0, .iload 3, .iconst (2), .iadd, .iaload, .invokevirtual 62, .aload 2, .aload 0, .iload 3, .iconst (1), .iadd, .iaload, .aload 0, .iload 3, .iconst (2), .iadd, .iaload, .invokevirtual 137, .if_icmp .eq (1472), .iconst (0), .ireturn] L st h := gm_bl_ok (by decide +kernel)
theorem bk_223_391 {X : List Int32} {d : Nat} {L st : List Value} {h : gm_H} : gm_ev X d 223 391 L st h = gm_bl X d 223 434 [.aload 1, .aload 0, .iload 3, .iconst (1), .iadd, .iaload, .aload 0, .iload 3, .iconst (2), .iadd, .iaload, .aload 0, .iload 3, .iconst (3), .iadd, .iaload, .invokevirtual 63, .aload 2, .aload 0, .iload 3, .iconst (1), .iadd, .iaload, .aload 0, .iload 3, .iconst (2), .iadd, .iaload, .aload 0, .iload 3, .iconst (3), .iadd, .iaload, .invokevirtual 138, .if_icmp .eq (1472), .iconst (0), .ireturn] L st h := gm_bl_ok (by decide +kernel)
theorem bk_223_434 {X : List Int32} {d : Nat} {L st : List Value} {h : gm_H} : gm_ev X d 223 434 L st h = gm_bl X d 223 457 [.aload 1, .aload 0, .iload 3, .iconst (1), .iadd, .iaload, .invokevirtual 67, .aload 2, .aload 0, .iload 3, .iconst (1), .iadd, .iaload, .invokevirtual 139, .if_icmp .eq (1472), .iconst (0), .ireturn] L st h := gm_bl_ok (by decide +kernel)
theorem bk_223_457 {X : List Int32} {d : Nat} {L st : List Value} {h : gm_H} : gm_ev X d 223 457 L st h = gm_bl X d 223 490 [.aload 1, .aload 0, .iload 3, .iconst (1), .iadd, .iaload, .aload 0, .iload 3, .iconst (2), .iadd, .iaload, .invokevirtual 68, .aload 2, .aload 0, .iload 3, .iconst (1), .iadd, .iaload, .aload 0, .iload 3, .iconst (2), .iadd, .iaload, .invokevirtual 140, .if_icmp .eq (1472), .iconst (0), .ireturn] L st h := gm_bl_ok (by decide +kernel)
theorem bk_223_490 {X : List Int32} {d : Nat} {L st : List Value} {h : gm_H} : gm_ev X d 223 490 L st h = gm_bl X d 223 523 [.aload 1, .aload 0, .iload 3, .iconst (1), .iadd, .iaload, .aload 0, .iload 3, .iconst (2), .iadd, .iaload, .invokevirtual 69, .aload 2, .aload 0, .iload 3, .iconst (1), .iadd, .iaload, .aload 0, .iload 3, .iconst (2), .iadd, .iaload, .invokevirtual 141, .if_icmp .eq (1472), .iconst (0), .ireturn] L st h := gm_bl_ok (by decide +kernel)
theorem bk_223_523 {X : List Int32} {d : Nat} {L st : List Value} {h : gm_H} : gm_ev X d 223 523 L st h = gm_bl X d 223 546 [.aload 1, .aload 0, .iload 3, .iconst (1), .iadd, .iaload, .invokevirtual 70, .aload 2, .aload 0, .iload 3, .iconst (1), .iadd, .iaload, .invokevirtual 143, .if_icmp .eq (1472), .iconst (0), .ireturn] L st h := gm_bl_ok (by decide +kernel)
theorem bk_223_546 {X : List Int32} {d : Nat} {L st : List Value} {h : gm_H} : gm_ev X d 223 546 L st h = gm_bl X d 223 569 [.aload 1, .aload 0, .iload 3, .iconst (1), .iadd, .iaload, .invokevirtual 71, .aload 2, .aload 0, .iload 3, .iconst (1), .iadd, .iaload, .invokevirtual 144, .if_icmp .eq (1472), .iconst (0), .ireturn] L st h := gm_bl_ok (by decide +kernel)
theorem bk_223_569 {X : List Int32} {d : Nat} {L st : List Value} {h : gm_H} : gm_ev X d 223 569 L st h = gm_bl X d 223 602 [.aload 1, .aload 0, .iload 3, .iconst (1), .iadd, .iaload, .aload 0, .iload 3, .iconst (2), .iadd, .iaload, .invokevirtual 72, .aload 2, .aload 0, .iload 3, .iconst (1), .iadd, .iaload, .aload 0, .iload 3, .iconst (2), .iadd, .iaload, .invokevirtual 145, .if_icmp .eq (1472), .iconst (0), .ireturn] L st h := gm_bl_ok (by decide +kernel)
theorem bk_223_602 {X : List Int32} {d : Nat} {L st : List Value} {h : gm_H} : gm_ev X d 223 602 L st h = gm_bl X d 223 625 [.aload 1, .aload 0, .iload 3, .iconst (1), .iadd, .iaload, .invokevirtual 73, .aload 2, .aload 0, .iload 3, .iconst (1), .iadd, .iaload, .invokevirtual 150, .if_icmp .eq (1472), .iconst (0), .ireturn] L st h := gm_bl_ok (by decide +kernel)
theorem bk_223_625 {X : List Int32} {d : Nat} {L st : List Value} {h : gm_H} : gm_ev X d 223 625 L st h = gm_bl X d 223 648 [.aload 1, .aload 0, .iload 3, .iconst (1), .iadd, .iaload, .invokevirtual 74, .aload 2, .aload 0, .iload 3, .iconst (1), .iadd, .iaload, .invokevirtual 153, .if_icmp .eq (1472), .iconst (0), .ireturn] L st h := gm_bl_ok (by decide +kernel)
theorem bk_223_648 {X : List Int32} {d : Nat} {L st : List Value} {h : gm_H} : gm_ev X d 223 648 L st h = gm_bl X d 223 671 [.aload 1, .aload 0, .iload 3, .iconst (1), .iadd, .iaload, .invokevirtual 75, .aload 2, .aload 0, .iload 3, .iconst (1), .iadd, .iaload, .invokevirtual 154, .if_icmp .eq (1472), .iconst (0), .ireturn] L st h := gm_bl_ok (by decide +kernel)
theorem bk_223_671 {X : List Int32} {d : Nat} {L st : List Value} {h : gm_H} : gm_ev X d 223 671 L st h = gm_bl X d 223 704 [.aload 1, .aload 0, .iload 3, .iconst (1), .iadd, .iaload, .aload 0, .iload 3, .iconst (2), .iadd, .iaload, .invokevirtual 76, .aload 2, .aload 0, .iload 3, .iconst (1), .iadd, .iaload, .aload 0, .iload 3, .iconst (2), .iadd, .iaload, .invokevirtual 155, .if_icmp .eq (1472), .iconst (0), .ireturn] L st h := gm_bl_ok (by decide +kernel)
theorem bk_223_704 {X : List Int32} {d : Nat} {L st : List Value} {h : gm_H} : gm_ev X d 223 704 L st h = gm_bl X d 223 717 [.aload 1, .invokevirtual 77, .aload 2, .invokevirtual 157, .if_icmp .eq (1472), .iconst (0), .ireturn] L st h := gm_bl_ok (by decide +kernel)
theorem bk_223_717 {X : List Int32} {d : Nat} {L st : List Value} {h : gm_H} : gm_ev X d 223 717 L st h = gm_bl X d 223 760 [.aload 1, .aload 0, .iload 3, .iconst (1), .iadd, .iaload, .aload 0, .iload 3, .iconst (2), .iadd, .iaload, .aload 0, .iload 3, .iconst (3), .iadd, .iaload, .invokevirtual 78, .aload 2, .aload 0, .iload 3, .iconst (1), .iadd, .iaload, .aload 0, .iload 3, .iconst (2), .iadd, .iaload, .aload 0, .iload 3, .iconst (3), .iadd, .iaload, .invokevirtual 159, .if_icmp .eq (1472), .iconst (0), .ireturn] L st h := gm_bl_ok (by decide +kernel)
theorem bk_223_760 {X : List Int32} {d : Nat} {L st : List Value} {h : gm_H} : gm_ev X d 223 760 L st h = gm_bl X d 223 793 [.aload 1, .aload 0, .iload 3, .iconst (1), .iadd, .iaload, .aload 0, .iload 3, .iconst (2), .iadd, .iaload, .invokevirtual 80, .aload 2, .aload 0, .iload 3, .iconst (1), .iadd, .iaload, .aload 0, .iload 3, .iconst (2), .iadd, .iaload, .invokevirtual 161, .if_icmp .eq (1472), .iconst (0), .ireturn] L st h := gm_bl_ok (by decide +kernel)
theorem bk_223_793 {X : List Int32} {d : Nat} {L st : List Value} {h : gm_H} : gm_ev X d 223 793 L st h = gm_bl X d 223 826 [.aload 1, .aload 0, .iload 3, .iconst (1), .iadd, .iaload, .aload 0, .iload 3, .iconst (2), .iadd, .iaload, .invokevirtual 82, .aload 2, .aload 0, .iload 3, .iconst (1), .iadd, .iaload, .aload 0, .iload 3, .iconst (2), .iadd, .iaload, .invokevirtual 162, .if_icmp .eq (1472), .iconst (0), .ireturn] L st h := gm_bl_ok (by decide +kernel)
theorem bk_223_826 {X : List Int32} {d : Nat} {L st : List Value} {h : gm_H} : gm_ev X d 223 826 L st h = gm_bl X d 223 849 [.aload 1, .aload 0, .iload 3, .iconst (1), .iadd, .iaload, .invokevirtual 83, .aload 2, .aload 0, .iload 3, .iconst (1), .iadd, .iaload, .invokevirtual 163, .if_icmp .eq (1472), .iconst (0), .ireturn] L st h := gm_bl_ok (by decide +kernel)
theorem bk_223_849 {X : List Int32} {d : Nat} {L st : List Value} {h : gm_H} : gm_ev X d 223 849 L st h = gm_bl X d 223 892 [.aload 1, .aload 0, .iload 3, .iconst (1), .iadd, .iaload, .aload 0, .iload 3, .iconst (2), .iadd, .iaload, .aload 0, .iload 3, .iconst (3), .iadd, .iaload, .invokevirtual 85, .aload 2, .aload 0, .iload 3, .iconst (1), .iadd, .iaload, .aload 0, .iload 3, .iconst (2), .iadd, .iaload, .aload 0, .iload 3, .iconst (3), .iadd, .iaload, .invokevirtual 164, .if_icmp .eq (1472), .iconst (0), .ireturn] L st h := gm_bl_ok (by decide +kernel)
theorem bk_223_892 {X : List Int32} {d : Nat} {L st : List Value} {h : gm_H} : gm_ev X d 223 892 L st h = gm_bl X d 223 905 [.aload 1, .invokevirtual 87, .aload 2, .invokevirtual 165, .if_icmp .eq (1472), .iconst (0), .ireturn] L st h := gm_bl_ok (by decide +kernel)
theorem bk_223_905 {X : List Int32} {d : Nat} {L st : List Value} {h : gm_H} : gm_ev X d 223 905 L st h = gm_bl X d 223 948 [.aload 1, .aload 0, .iload 3, .iconst (1), .iadd, .iaload, .aload 0, .iload 3, .iconst (2), .iadd, .iaload, .aload 0, .iload 3, .iconst (3), .iadd, .iaload, .invokevirtual 88, .aload 2, .aload 0, .iload 3, .iconst (1), .iadd, .iaload, .aload 0, .iload 3, .iconst (2), .iadd, .iaload, .aload 0, .iload 3, .iconst (3), .iadd, .iaload, .invokevirtual 167, .if_icmp .eq (1472), .iconst (0), .ireturn] L st h := gm_bl_ok (by decide +kernel)
theorem bk_223_948 {X : List Int32} {d : Nat} {L st : List Value} {h : gm_H} : gm_ev X d 223 948 L st h = gm_bl X d 223 971 [.aload 1, .aload 0, .iload 3, .iconst (1), .iadd, .iaload, .invokevirtual 89, .aload 2, .aload 0, .iload 3, .iconst (1), .iadd, .iaload, .invokevirtual 168, .if_icmp .eq (1472), .iconst (0), .ireturn] L st h := gm_bl_ok (by decide +kernel)
theorem bk_223_971 {X : List Int32} {d : Nat} {L st : List Value} {h : gm_H} : gm_ev X d 223 971 L st h = gm_bl X d 223 984 [.aload 1, .invokevirtual 90, .aload 2, .invokevirtual 185, .if_icmp .eq (1472), .iconst (0), .ireturn] L st h := gm_bl_ok (by decide +kernel)
theorem bk_223_984 {X : List Int32} {d : Nat} {L st : List Value} {h : gm_H} : gm_ev X d 223 984 L st h = gm_bl X d 223 1017 [.aload 1, .aload 0, .iload 3, .iconst (1), .iadd, .iaload, .aload 0, .iload 3, .iconst (2), .iadd, .iaload, .invokevirtual 91, .aload 2, .aload 0, .iload 3, .iconst (1), .iadd, .iaload, .aload 0, .iload 3, .iconst (2), .iadd, .iaload, .invokevirtual 186, .if_icmp .eq (1472), .iconst (0), .ireturn] L st h := gm_bl_ok (by decide +kernel)
theorem bk_223_1017 {X : List Int32} {d : Nat} {L st : List Value} {h : gm_H} : gm_ev X d 223 1017 L st h = gm_bl X d 223 1040 [.aload 1, .aload 0, .iload 3, .iconst (1), .iadd, .iaload, .invokevirtual 92, .aload 2, .aload 0, .iload 3, .iconst (1), .iadd, .iaload, .invokevirtual 188, .if_icmp .eq (1472), .iconst (0), .ireturn] L st h := gm_bl_ok (by decide +kernel)
theorem bk_223_1040 {X : List Int32} {d : Nat} {L st : List Value} {h : gm_H} : gm_ev X d 223 1040 L st h = gm_bl X d 223 1083 [.aload 1, .aload 0, .iload 3, .iconst (1), .iadd, .iaload, .aload 0, .iload 3, .iconst (2), .iadd, .iaload, .aload 0, .iload 3, .iconst (3), .iadd, .iaload, .invokevirtual 93, .aload 2, .aload 0, .iload 3, .iconst (1), .iadd, .iaload, .aload 0, .iload 3, .iconst (2), .iadd, .iaload, .aload 0, .iload 3, .iconst (3), .iadd, .iaload, .invokevirtual 192, .if_icmp .eq (1472), .iconst (0), .ireturn] L st h := gm_bl_ok (by decide +kernel)
theorem bk_223_1083 {X : List Int32} {d : Nat} {L st : List Value} {h : gm_H} : gm_ev X d 223 1083 L st h = gm_bl X d 223 1126 [.aload 1, .aload 0, .iload 3, .iconst (1), .iadd, .iaload, .aload 0, .iload 3, .iconst (2), .iadd, .iaload, .aload 0, .iload 3, .iconst (3), .iadd, .iaload, .invokevirtual 94, .aload 2, .aload 0, .iload 3, .iconst (1), .iadd, .iaload, .aload 0, .iload 3, .iconst (2), .iadd, .iaload, .aload 0, .iload 3, .iconst (3), .iadd, .iaload, .invokevirtual 193, .if_icmp .eq (1472), .iconst (0), .ireturn] L st h := gm_bl_ok (by decide +kernel)
theorem bk_223_1126 {X : List Int32} {d : Nat} {L st : List Value} {h : gm_H} : gm_ev X d 223 1126 L st h = gm_bl X d 223 1149 [.aload 1, .aload 0, .iload 3, .iconst (1), .iadd, .iaload, .invokevirtual 95, .aload 2, .aload 0, .iload 3, .iconst (1), .iadd, .iaload, .invokevirtual 194, .if_icmp .eq (1472), .iconst (0), .ireturn] L st h := gm_bl_ok (by decide +kernel)
theorem bk_223_1149 {X : List Int32} {d : Nat} {L st : List Value} {h : gm_H} : gm_ev X d 223 1149 L st h = gm_bl X d 223 1172 [.aload 1, .aload 0, .iload 3, .iconst (1), .iadd, .iaload, .invokevirtual 96, .aload 2, .aload 0, .iload 3, .iconst (1), .iadd, .iaload, .invokevirtual 195, .if_icmp .eq (1472), .iconst (0), .ireturn] L st h := gm_bl_ok (by decide +kernel)
theorem bk_223_1172 {X : List Int32} {d : Nat} {L st : List Value} {h : gm_H} : gm_ev X d 223 1172 L st h = gm_bl X d 223 1235 [.aload 1, .aload 0, .iload 3, .iconst (1), .iadd, .iaload, .aload 0, .iload 3, .iconst (2), .iadd, .iaload, .aload 0, .iload 3, .iconst (3), .iadd, .iaload, .aload 0, .iload 3, .iconst (4), .iadd, .iaload, .aload 0, .iload 3, .iconst (5), .iadd, .iaload, .invokevirtual 97, .aload 2, .aload 0, .iload 3, .iconst (1), .iadd, .iaload, .aload 0, .iload 3, .iconst (2), .iadd, .iaload, .aload 0, .iload 3, .iconst (3), .iadd, .iaload, .aload 0, .iload 3, .iconst (4), .iadd, .iaload, .aload 0, .iload 3, .iconst (5), .iadd, .iaload, .invokevirtual 196, .if_icmp .eq (1472), .iconst (0), .ireturn] L st h := gm_bl_ok (by decide +kernel)
theorem bk_223_1235 {X : List Int32} {d : Nat} {L st : List Value} {h : gm_H} : gm_ev X d 223 1235 L st h = gm_bl X d 223 1278 [.aload 1, .aload 0, .iload 3, .iconst (1), .iadd, .iaload, .aload 0, .iload 3, .iconst (2), .iadd, .iaload, .aload 0, .iload 3, .iconst (3), .iadd, .iaload, .invokevirtual 98, .aload 2, .aload 0, .iload 3, .iconst (1), .iadd, .iaload, .aload 0, .iload 3, .iconst (2), .iadd, .iaload, .aload 0, .iload 3, .iconst (3), .iadd, .iaload, .invokevirtual 199, .if_icmp .eq (1472), .iconst (0), .ireturn] L st h := gm_bl_ok (by decide +kernel)
theorem bk_223_1278 {X : List Int32} {d : Nat} {L st : List Value} {h : gm_H} : gm_ev X d 223 1278 L st h = gm_bl X d 223 1311 [.aload 1, .aload 0, .iload 3, .iconst (1), .iadd, .iaload, .aload 0, .iload 3, .iconst (2), .iadd, .iaload, .invokevirtual 99, .aload 2, .aload 0, .iload 3, .iconst (1), .iadd, .iaload, .aload 0, .iload 3, .iconst (2), .iadd, .iaload, .invokevirtual 200, .if_icmp .eq (1472), .iconst (0), .ireturn] L st h := gm_bl_ok (by decide +kernel)
theorem bk_223_1311 {X : List Int32} {d : Nat} {L st : List Value} {h : gm_H} : gm_ev X d 223 1311 L st h = gm_bl X d 223 1344 [.aload 1, .aload 0, .iload 3, .iconst (1), .iadd, .iaload, .aload 0, .iload 3, .iconst (2), .iadd, .iaload, .invokevirtual 100, .aload 2, .aload 0, .iload 3, .iconst (1), .iadd, .iaload, .aload 0, .iload 3, .iconst (2), .iadd, .iaload, .invokevirtual 201, .if_icmp .eq (1472), .iconst (0), .ireturn] L st h := gm_bl_ok (by decide +kernel)
theorem bk_223_1344 {X : List Int32} {d : Nat} {L st : List Value} {h : gm_H} : gm_ev X d 223 1344 L st h = gm_bl X d 223 1377 [.aload 1, .aload 0, .iload 3, .iconst (1), .iadd, .iaload, .aload 0, .iload 3, .iconst (2), .iadd, .iaload, .invokevirtual 101, .aload 2, .aload 0, .iload 3, .iconst (1), .iadd, .iaload, .aload 0, .iload 3, .iconst (2), .iadd, .iaload, .invokevirtual 202, .if_icmp .eq (1472), .iconst (0), .ireturn] L st h := gm_bl_ok (by decide +kernel)
theorem bk_223_1377 {X : List Int32} {d : Nat} {L st : List Value} {h : gm_H} : gm_ev X d 223 1377 L st h = gm_bl X d 223 1400 [.aload 1, .aload 0, .iload 3, .iconst (1), .iadd, .iaload, .invokevirtual 102, .aload 2, .aload 0, .iload 3, .iconst (1), .iadd, .iaload, .invokevirtual 203, .if_icmp .eq (1472), .iconst (0), .ireturn] L st h := gm_bl_ok (by decide +kernel)
theorem bk_223_1400 {X : List Int32} {d : Nat} {L st : List Value} {h : gm_H} : gm_ev X d 223 1400 L st h = gm_bl X d 223 1423 [.aload 1, .aload 0, .iload 3, .iconst (1), .iadd, .iaload, .invokevirtual 103, .aload 2, .aload 0, .iload 3, .iconst (1), .iadd, .iaload, .invokevirtual 204, .if_icmp .eq (1472), .iconst (0), .ireturn] L st h := gm_bl_ok (by decide +kernel)
theorem bk_223_1423 {X : List Int32} {d : Nat} {L st : List Value} {h : gm_H} : gm_ev X d 223 1423 L st h = gm_bl X d 223 1436 [.aload 1, .invokevirtual 104, .aload 2, .invokevirtual 205, .if_icmp .eq (1472), .iconst (0), .ireturn] L st h := gm_bl_ok (by decide +kernel)
theorem bk_223_1436 {X : List Int32} {d : Nat} {L st : List Value} {h : gm_H} : gm_ev X d 223 1436 L st h = gm_bl X d 223 1449 [.aload 1, .invokevirtual 105, .aload 2, .invokevirtual 206, .if_icmp .eq (1472), .iconst (0), .ireturn] L st h := gm_bl_ok (by decide +kernel)
theorem bk_223_1449 {X : List Int32} {d : Nat} {L st : List Value} {h : gm_H} : gm_ev X d 223 1449 L st h = gm_bl X d 223 1472 [.aload 1, .aload 0, .iload 3, .iconst (1), .iadd, .iaload, .invokevirtual 106, .aload 2, .aload 0, .iload 3, .iconst (1), .iadd, .iaload, .invokevirtual 207, .if_icmp .eq (1472), .iconst (0), .ireturn] L st h := gm_bl_ok (by decide +kernel)
theorem bk_223_1472 {X : List Int32} {d : Nat} {L st : List Value} {h : gm_H} : gm_ev X d 223 1472 L st h = gm_bl X d 223 1478 [.iinc 3 (6), .goto (18)] L st h := gm_bl_ok (by decide +kernel)
theorem bk_223_1478 {X : List Int32} {d : Nat} {L st : List Value} {h : gm_H} : gm_ev X d 223 1478 L st h = gm_bl X d 223 1480 [.iconst (1), .ireturn] L st h := gm_bl_ok (by decide +kernel)
def lwP (X : List Int32) (d i : Nat) (u : gt_M) (t : Int) : Prop := ∃ u2, Inv u2 ∧ gm_ev X (d + 201) 223 t.toNat [.ref 10000, .ref 0, .ref 116, .int (nI i)] [] (gt_h u) = gm_ev X (d + 201) 223 1472 [.ref 10000, .ref 0, .ref 116, .int (nI i)] [] (gt_h u2)
theorem hX_ok {X : List Int32} (hl : X.length ≤ 384) (h : gm_H) (j : Nat) (hj : j < X.length) : gm_ial X h 10000 (nI j) = some (X.getD j 0) := by
  unfold gm_ial
  rw [if_neg (by omega), if_pos rfl]
  unfold gm_ix
  rw [nI_clamp (by omega), if_neg]
  rintro (y | y)
  · rw [z_lt, L_lt (by omega) (by omega)] at y
    omega
  · omega
theorem hX_len {X : List Int32} {h : gm_H} : gm_len X h 10000 = some X.length := by
  unfold gm_len
  rw [if_neg (by omega), if_pos rfl]
section C45
variable {X : List Int32} {d i : Nat} {u : gt_M}
theorem lw_0 (hl : X.length ≤ 384) (hi : i + 6 ≤ X.length) (hI : Inv u) : lwP X d i u 216 := by
  have hX := hX_ok hl
  obtain ⟨r, u1, u2, e1, e2, h2⟩ := Sim_butt (X := X) (x := X.getD (i + 1) 0) (y := X.getD (i + 2) 0) (z := X.getD (i + 3) 0) u d hI
  refine ⟨u2, h2, ?_⟩
  show gm_ev X (d + 201) 223 216 _ _ _ = _
  rw [bk_223_216]
  simp -implicitDefEqProofs (disch := first | exact na_58 | exact na_126 | exact c1_i | exact c1_r | exact k_0.trans mc_58.symm | exact k_116.trans mc_126.symm | omega | exact Nat.le_of_ble_eq_true rfl) only [bl_al0, bl_al1, bl_al2, bl_il3, bl_c1, bl_c2, bl_c3, bl_c4, bl_c5, bl_iadd, nI_add, bl_ial, hX, bl_iv4, e1, e2, Option.bind_some, Option.toList_some, List.cons_append, List.nil_append, bl_ic_eq, if_true, eq_self, ↓reduceIte, tn_1472]
theorem lw_1 (hl : X.length ≤ 384) (hi : i + 6 ≤ X.length) (hI : Inv u) : lwP X d i u 259 := by
  have hX := hX_ok hl
  obtain ⟨r, u1, u2, e1, e2, h2⟩ := Sim_told (X := X) (x := X.getD (i + 1) 0) (y := X.getD (i + 2) 0) u d hI
  refine ⟨u2, h2, ?_⟩
  show gm_ev X (d + 201) 223 259 _ _ _ = _
  rw [bk_223_259]
  simp -implicitDefEqProofs (disch := first | exact na_59 | exact na_134 | exact c1_i | exact c1_r | exact k_0.trans mc_59.symm | exact k_116.trans mc_134.symm | omega | exact Nat.le_of_ble_eq_true rfl) only [bl_al0, bl_al1, bl_al2, bl_il3, bl_c1, bl_c2, bl_c3, bl_c4, bl_c5, bl_iadd, nI_add, bl_ial, hX, bl_iv3, e1, e2, Option.bind_some, Option.toList_some, List.cons_append, List.nil_append, bl_ic_eq, if_true, eq_self, ↓reduceIte, tn_1472]
theorem lw_2 (hl : X.length ≤ 384) (hi : i + 6 ≤ X.length) (hI : Inv u) : lwP X d i u 292 := by
  have hX := hX_ok hl
  obtain ⟨r, u1, u2, e1, e2, h2⟩ := Sim_catches (X := X) (x := X.getD (i + 1) 0) (y := X.getD (i + 2) 0) u d hI
  refine ⟨u2, h2, ?_⟩
  show gm_ev X (d + 201) 223 292 _ _ _ = _
  rw [bk_223_292]
  simp -implicitDefEqProofs (disch := first | exact na_60 | exact na_135 | exact c1_i | exact c1_r | exact k_0.trans mc_60.symm | exact k_116.trans mc_135.symm | omega | exact Nat.le_of_ble_eq_true rfl) only [bl_al0, bl_al1, bl_al2, bl_il3, bl_c1, bl_c2, bl_c3, bl_c4, bl_c5, bl_iadd, nI_add, bl_ial, hX, bl_iv3, e1, e2, Option.bind_some, Option.toList_some, List.cons_append, List.nil_append, bl_ic_eq, if_true, eq_self, ↓reduceIte, tn_1472]
theorem lw_3 (hl : X.length ≤ 384) (hi : i + 6 ≤ X.length) (hI : Inv u) : lwP X d i u 325 := by
  have hX := hX_ok hl
  obtain ⟨r, u1, u2, e1, e2, h2⟩ := Sim_as (X := X) (x := X.getD (i + 1) 0) (y := X.getD (i + 2) 0) u d hI
  refine ⟨u2, h2, ?_⟩
  show gm_ev X (d + 201) 223 325 _ _ _ = _
  rw [bk_223_325]
  simp -implicitDefEqProofs (disch := first | exact na_61 | exact na_136 | exact c1_i | exact c1_r | exact k_0.trans mc_61.symm | exact k_116.trans mc_136.symm | omega | exact Nat.le_of_ble_eq_true rfl) only [bl_al0, bl_al1, bl_al2, bl_il3, bl_c1, bl_c2, bl_c3, bl_c4, bl_c5, bl_iadd, nI_add, bl_ial, hX, bl_iv3, e1, e2, Option.bind_some, Option.toList_some, List.cons_append, List.nil_append, bl_ic_eq, if_true, eq_self, ↓reduceIte, tn_1472]
theorem lw_4 (hl : X.length ≤ 384) (hi : i + 6 ≤ X.length) (hI : Inv u) : lwP X d i u 358 := by
  have hX := hX_ok hl
  obtain ⟨r, u1, u2, e1, e2, h2⟩ := Sim_turns (X := X) (x := X.getD (i + 1) 0) (y := X.getD (i + 2) 0) u d hI
  refine ⟨u2, h2, ?_⟩
  show gm_ev X (d + 201) 223 358 _ _ _ = _
  rw [bk_223_358]
  simp -implicitDefEqProofs (disch := first | exact na_62 | exact na_137 | exact c1_i | exact c1_r | exact k_0.trans mc_62.symm | exact k_116.trans mc_137.symm | omega | exact Nat.le_of_ble_eq_true rfl) only [bl_al0, bl_al1, bl_al2, bl_il3, bl_c1, bl_c2, bl_c3, bl_c4, bl_c5, bl_iadd, nI_add, bl_ial, hX, bl_iv3, e1, e2, Option.bind_some, Option.toList_some, List.cons_append, List.nil_append, bl_ic_eq, if_true, eq_self, ↓reduceIte, tn_1472]
theorem lw_5 (hl : X.length ≤ 384) (hi : i + 6 ≤ X.length) (hI : Inv u) : lwP X d i u 391 := by
  have hX := hX_ok hl
  obtain ⟨r, u1, u2, e1, e2, h2⟩ := Sim_set (X := X) (x := X.getD (i + 1) 0) (y := X.getD (i + 2) 0) (z := X.getD (i + 3) 0) u d hI
  refine ⟨u2, h2, ?_⟩
  show gm_ev X (d + 201) 223 391 _ _ _ = _
  rw [bk_223_391]
  simp -implicitDefEqProofs (disch := first | exact na_63 | exact na_138 | exact c1_i | exact c1_r | exact k_0.trans mc_63.symm | exact k_116.trans mc_138.symm | omega | exact Nat.le_of_ble_eq_true rfl) only [bl_al0, bl_al1, bl_al2, bl_il3, bl_c1, bl_c2, bl_c3, bl_c4, bl_c5, bl_iadd, nI_add, bl_ial, hX, bl_iv4, e1, e2, Option.bind_some, Option.toList_some, List.cons_append, List.nil_append, bl_ic_eq, if_true, eq_self, ↓reduceIte, tn_1472]
theorem lw_6 (hl : X.length ≤ 384) (hi : i + 6 ≤ X.length) (hI : Inv u) : lwP X d i u 434 := by
  have hX := hX_ok hl
  obtain ⟨r, u1, u2, e1, e2, h2⟩ := Sim_bed (X := X) (x := X.getD (i + 1) 0) u d hI
  refine ⟨u2, h2, ?_⟩
  show gm_ev X (d + 201) 223 434 _ _ _ = _
  rw [bk_223_434]
  simp -implicitDefEqProofs (disch := first | exact na_67 | exact na_139 | exact c1_i | exact c1_r | exact k_0.trans mc_67.symm | exact k_116.trans mc_139.symm | omega | exact Nat.le_of_ble_eq_true rfl) only [bl_al0, bl_al1, bl_al2, bl_il3, bl_c1, bl_c2, bl_c3, bl_c4, bl_c5, bl_iadd, nI_add, bl_ial, hX, bl_iv2, e1, e2, Option.bind_some, Option.toList_some, List.cons_append, List.nil_append, bl_ic_eq, if_true, eq_self, ↓reduceIte, tn_1472]
theorem lw_7 (hl : X.length ≤ 384) (hi : i + 6 ≤ X.length) (hI : Inv u) : lwP X d i u 457 := by
  have hX := hX_ok hl
  obtain ⟨r, u1, u2, e1, e2, h2⟩ := Sim_bedTold (X := X) (x := X.getD (i + 1) 0) (y := X.getD (i + 2) 0) u d hI
  refine ⟨u2, h2, ?_⟩
  show gm_ev X (d + 201) 223 457 _ _ _ = _
  rw [bk_223_457]
  simp -implicitDefEqProofs (disch := first | exact na_68 | exact na_140 | exact c1_i | exact c1_r | exact k_0.trans mc_68.symm | exact k_116.trans mc_140.symm | omega | exact Nat.le_of_ble_eq_true rfl) only [bl_al0, bl_al1, bl_al2, bl_il3, bl_c1, bl_c2, bl_c3, bl_c4, bl_c5, bl_iadd, nI_add, bl_ial, hX, bl_iv3, e1, e2, Option.bind_some, Option.toList_some, List.cons_append, List.nil_append, bl_ic_eq, if_true, eq_self, ↓reduceIte, tn_1472]
theorem lw_8 (hl : X.length ≤ 384) (hi : i + 6 ≤ X.length) (hI : Inv u) : lwP X d i u 490 := by
  have hX := hX_ok hl
  obtain ⟨r, u1, u2, e1, e2, h2⟩ := Sim_wants (X := X) (x := X.getD (i + 1) 0) (y := X.getD (i + 2) 0) u d hI
  refine ⟨u2, h2, ?_⟩
  show gm_ev X (d + 201) 223 490 _ _ _ = _
  rw [bk_223_490]
  simp -implicitDefEqProofs (disch := first | exact na_69 | exact na_141 | exact c1_i | exact c1_r | exact k_0.trans mc_69.symm | exact k_116.trans mc_141.symm | omega | exact Nat.le_of_ble_eq_true rfl) only [bl_al0, bl_al1, bl_al2, bl_il3, bl_c1, bl_c2, bl_c3, bl_c4, bl_c5, bl_iadd, nI_add, bl_ial, hX, bl_iv3, e1, e2, Option.bind_some, Option.toList_some, List.cons_append, List.nil_append, bl_ic_eq, if_true, eq_self, ↓reduceIte, tn_1472]
theorem lw_9 (hl : X.length ≤ 384) (hi : i + 6 ≤ X.length) (hI : Inv u) : lwP X d i u 523 := by
  have hX := hX_ok hl
  obtain ⟨r, u1, u2, e1, e2, h2⟩ := Sim_deal (X := X) (x := X.getD (i + 1) 0) u d hI
  refine ⟨u2, h2, ?_⟩
  show gm_ev X (d + 201) 223 523 _ _ _ = _
  rw [bk_223_523]
  simp -implicitDefEqProofs (disch := first | exact na_70 | exact na_143 | exact c1_i | exact c1_r | exact k_0.trans mc_70.symm | exact k_116.trans mc_143.symm | omega | exact Nat.le_of_ble_eq_true rfl) only [bl_al0, bl_al1, bl_al2, bl_il3, bl_c1, bl_c2, bl_c3, bl_c4, bl_c5, bl_iadd, nI_add, bl_ial, hX, bl_iv2, e1, e2, Option.bind_some, Option.toList_some, List.cons_append, List.nil_append, bl_ic_eq, if_true, eq_self, ↓reduceIte, tn_1472]
theorem lw_10 (hl : X.length ≤ 384) (hi : i + 6 ≤ X.length) (hI : Inv u) : lwP X d i u 546 := by
  have hX := hX_ok hl
  obtain ⟨r, u1, u2, e1, e2, h2⟩ := Sim_seed (X := X) (x := X.getD (i + 1) 0) u d hI
  refine ⟨u2, h2, ?_⟩
  show gm_ev X (d + 201) 223 546 _ _ _ = _
  rw [bk_223_546]
  simp -implicitDefEqProofs (disch := first | exact na_71 | exact na_144 | exact c1_i | exact c1_r | exact k_0.trans mc_71.symm | exact k_116.trans mc_144.symm | omega | exact Nat.le_of_ble_eq_true rfl) only [bl_al0, bl_al1, bl_al2, bl_il3, bl_c1, bl_c2, bl_c3, bl_c4, bl_c5, bl_iadd, nI_add, bl_ial, hX, bl_iv2, e1, e2, Option.bind_some, Option.toList_some, List.cons_append, List.nil_append, bl_ic_eq, if_true, eq_self, ↓reduceIte, tn_1472]
theorem lw_11 (hl : X.length ≤ 384) (hi : i + 6 ≤ X.length) (hI : Inv u) : lwP X d i u 569 := by
  have hX := hX_ok hl
  obtain ⟨r, u1, u2, e1, e2, h2⟩ := Sim_rule (X := X) (x := X.getD (i + 1) 0) (y := X.getD (i + 2) 0) u d hI
  refine ⟨u2, h2, ?_⟩
  show gm_ev X (d + 201) 223 569 _ _ _ = _
  rw [bk_223_569]
  simp -implicitDefEqProofs (disch := first | exact na_72 | exact na_145 | exact c1_i | exact c1_r | exact k_0.trans mc_72.symm | exact k_116.trans mc_145.symm | omega | exact Nat.le_of_ble_eq_true rfl) only [bl_al0, bl_al1, bl_al2, bl_il3, bl_c1, bl_c2, bl_c3, bl_c4, bl_c5, bl_iadd, nI_add, bl_ial, hX, bl_iv3, e1, e2, Option.bind_some, Option.toList_some, List.cons_append, List.nil_append, bl_ic_eq, if_true, eq_self, ↓reduceIte, tn_1472]
theorem lw_12 (hl : X.length ≤ 384) (hi : i + 6 ≤ X.length) (hI : Inv u) : lwP X d i u 602 := by
  have hX := hX_ok hl
  obtain ⟨r, u1, u2, e1, e2, h2⟩ := Sim_days (X := X) (x := X.getD (i + 1) 0) u d hI
  refine ⟨u2, h2, ?_⟩
  show gm_ev X (d + 201) 223 602 _ _ _ = _
  rw [bk_223_602]
  simp -implicitDefEqProofs (disch := first | exact na_73 | exact na_150 | exact c1_i | exact c1_r | exact k_0.trans mc_73.symm | exact k_116.trans mc_150.symm | omega | exact Nat.le_of_ble_eq_true rfl) only [bl_al0, bl_al1, bl_al2, bl_il3, bl_c1, bl_c2, bl_c3, bl_c4, bl_c5, bl_iadd, nI_add, bl_ial, hX, bl_iv2, e1, e2, Option.bind_some, Option.toList_some, List.cons_append, List.nil_append, bl_ic_eq, if_true, eq_self, ↓reduceIte, tn_1472]
theorem lw_13 (hl : X.length ≤ 384) (hi : i + 6 ≤ X.length) (hI : Inv u) : lwP X d i u 625 := by
  have hX := hX_ok hl
  obtain ⟨r, u1, u2, e1, e2, h2⟩ := Sim_gallons (X := X) (x := X.getD (i + 1) 0) u d hI
  refine ⟨u2, h2, ?_⟩
  show gm_ev X (d + 201) 223 625 _ _ _ = _
  rw [bk_223_625]
  simp -implicitDefEqProofs (disch := first | exact na_74 | exact na_153 | exact c1_i | exact c1_r | exact k_0.trans mc_74.symm | exact k_116.trans mc_153.symm | omega | exact Nat.le_of_ble_eq_true rfl) only [bl_al0, bl_al1, bl_al2, bl_il3, bl_c1, bl_c2, bl_c3, bl_c4, bl_c5, bl_iadd, nI_add, bl_ial, hX, bl_iv2, e1, e2, Option.bind_some, Option.toList_some, List.cons_append, List.nil_append, bl_ic_eq, if_true, eq_self, ↓reduceIte, tn_1472]
theorem lw_14 (hl : X.length ≤ 384) (hi : i + 6 ≤ X.length) (hI : Inv u) : lwP X d i u 648 := by
  have hX := hX_ok hl
  obtain ⟨r, u1, u2, e1, e2, h2⟩ := Sim_pourDown (X := X) (x := X.getD (i + 1) 0) u d hI
  refine ⟨u2, h2, ?_⟩
  show gm_ev X (d + 201) 223 648 _ _ _ = _
  rw [bk_223_648]
  simp -implicitDefEqProofs (disch := first | exact na_75 | exact na_154 | exact c1_i | exact c1_r | exact k_0.trans mc_75.symm | exact k_116.trans mc_154.symm | omega | exact Nat.le_of_ble_eq_true rfl) only [bl_al0, bl_al1, bl_al2, bl_il3, bl_c1, bl_c2, bl_c3, bl_c4, bl_c5, bl_iadd, nI_add, bl_ial, hX, bl_iv2, e1, e2, Option.bind_some, Option.toList_some, List.cons_append, List.nil_append, bl_ic_eq, if_true, eq_self, ↓reduceIte, tn_1472]
theorem lw_15 (hl : X.length ≤ 384) (hi : i + 6 ≤ X.length) (hI : Inv u) : lwP X d i u 671 := by
  have hX := hX_ok hl
  obtain ⟨r, u1, u2, e1, e2, h2⟩ := Sim_behind (X := X) (x := X.getD (i + 1) 0) (y := X.getD (i + 2) 0) u d hI
  refine ⟨u2, h2, ?_⟩
  show gm_ev X (d + 201) 223 671 _ _ _ = _
  rw [bk_223_671]
  simp -implicitDefEqProofs (disch := first | exact na_76 | exact na_155 | exact c1_i | exact c1_r | exact k_0.trans mc_76.symm | exact k_116.trans mc_155.symm | omega | exact Nat.le_of_ble_eq_true rfl) only [bl_al0, bl_al1, bl_al2, bl_il3, bl_c1, bl_c2, bl_c3, bl_c4, bl_c5, bl_iadd, nI_add, bl_ial, hX, bl_iv3, e1, e2, Option.bind_some, Option.toList_some, List.cons_append, List.nil_append, bl_ic_eq, if_true, eq_self, ↓reduceIte, tn_1472]
theorem lw_16 (hl : X.length ≤ 384) (hi : i + 6 ≤ X.length) (hI : Inv u) : lwP X d i u 704 := by
  have hX := hX_ok hl
  obtain ⟨r, u1, u2, e1, e2, h2⟩ := Sim_dryBy (X := X)  u d hI
  refine ⟨u2, h2, ?_⟩
  show gm_ev X (d + 201) 223 704 _ _ _ = _
  rw [bk_223_704]
  simp -implicitDefEqProofs (disch := first | exact na_77 | exact na_157 | exact c1_i | exact c1_r | exact k_0.trans mc_77.symm | exact k_116.trans mc_157.symm | omega | exact Nat.le_of_ble_eq_true rfl) only [bl_al0, bl_al1, bl_al2, bl_il3, bl_c1, bl_c2, bl_c3, bl_c4, bl_c5, bl_iadd, nI_add, bl_ial, hX, bl_iv1, e1, e2, Option.bind_some, Option.toList_some, List.cons_append, List.nil_append, bl_ic_eq, if_true, eq_self, ↓reduceIte, tn_1472]
theorem lw_17 (hl : X.length ≤ 384) (hi : i + 6 ≤ X.length) (hI : Inv u) : lwP X d i u 717 := by
  have hX := hX_ok hl
  obtain ⟨r, u1, u2, e1, e2, h2⟩ := Sim_larger (X := X) (x := X.getD (i + 1) 0) (y := X.getD (i + 2) 0) (z := X.getD (i + 3) 0) u d hI
  refine ⟨u2, h2, ?_⟩
  show gm_ev X (d + 201) 223 717 _ _ _ = _
  rw [bk_223_717]
  simp -implicitDefEqProofs (disch := first | exact na_78 | exact na_159 | exact c1_i | exact c1_r | exact k_0.trans mc_78.symm | exact k_116.trans mc_159.symm | omega | exact Nat.le_of_ble_eq_true rfl) only [bl_al0, bl_al1, bl_al2, bl_il3, bl_c1, bl_c2, bl_c3, bl_c4, bl_c5, bl_iadd, nI_add, bl_ial, hX, bl_iv4, e1, e2, Option.bind_some, Option.toList_some, List.cons_append, List.nil_append, bl_ic_eq, if_true, eq_self, ↓reduceIte, tn_1472]
theorem lw_18 (hl : X.length ≤ 384) (hi : i + 6 ≤ X.length) (hI : Inv u) : lwP X d i u 760 := by
  have hX := hX_ok hl
  obtain ⟨r, u1, u2, e1, e2, h2⟩ := Sim_leave (X := X) (x := X.getD (i + 1) 0) (y := X.getD (i + 2) 0) u d hI
  refine ⟨u2, h2, ?_⟩
  show gm_ev X (d + 201) 223 760 _ _ _ = _
  rw [bk_223_760]
  simp -implicitDefEqProofs (disch := first | exact na_80 | exact na_161 | exact c1_i | exact c1_r | exact k_0.trans mc_80.symm | exact k_116.trans mc_161.symm | omega | exact Nat.le_of_ble_eq_true rfl) only [bl_al0, bl_al1, bl_al2, bl_il3, bl_c1, bl_c2, bl_c3, bl_c4, bl_c5, bl_iadd, nI_add, bl_ial, hX, bl_iv3, e1, e2, Option.bind_some, Option.toList_some, List.cons_append, List.nil_append, bl_ic_eq, if_true, eq_self, ↓reduceIte, tn_1472]
theorem lw_19 (hl : X.length ≤ 384) (hi : i + 6 ≤ X.length) (hI : Inv u) : lwP X d i u 793 := by
  have hX := hX_ok hl
  obtain ⟨r, u1, u2, e1, e2, h2⟩ := Sim_spares (X := X) (x := X.getD (i + 1) 0) (y := X.getD (i + 2) 0) u d hI
  refine ⟨u2, h2, ?_⟩
  show gm_ev X (d + 201) 223 793 _ _ _ = _
  rw [bk_223_793]
  simp -implicitDefEqProofs (disch := first | exact na_82 | exact na_162 | exact c1_i | exact c1_r | exact k_0.trans mc_82.symm | exact k_116.trans mc_162.symm | omega | exact Nat.le_of_ble_eq_true rfl) only [bl_al0, bl_al1, bl_al2, bl_il3, bl_c1, bl_c2, bl_c3, bl_c4, bl_c5, bl_iadd, nI_add, bl_ial, hX, bl_iv3, e1, e2, Option.bind_some, Option.toList_some, List.cons_append, List.nil_append, bl_ic_eq, if_true, eq_self, ↓reduceIte, tn_1472]
theorem lw_20 (hl : X.length ≤ 384) (hi : i + 6 ≤ X.length) (hI : Inv u) : lwP X d i u 826 := by
  have hX := hX_ok hl
  obtain ⟨r, u1, u2, e1, e2, h2⟩ := Sim_taps (X := X) (x := X.getD (i + 1) 0) u d hI
  refine ⟨u2, h2, ?_⟩
  show gm_ev X (d + 201) 223 826 _ _ _ = _
  rw [bk_223_826]
  simp -implicitDefEqProofs (disch := first | exact na_83 | exact na_163 | exact c1_i | exact c1_r | exact k_0.trans mc_83.symm | exact k_116.trans mc_163.symm | omega | exact Nat.le_of_ble_eq_true rfl) only [bl_al0, bl_al1, bl_al2, bl_il3, bl_c1, bl_c2, bl_c3, bl_c4, bl_c5, bl_iadd, nI_add, bl_ial, hX, bl_iv2, e1, e2, Option.bind_some, Option.toList_some, List.cons_append, List.nil_append, bl_ic_eq, if_true, eq_self, ↓reduceIte, tn_1472]
theorem lw_21 (hl : X.length ≤ 384) (hi : i + 6 ≤ X.length) (hI : Inv u) : lwP X d i u 849 := by
  have hX := hX_ok hl
  obtain ⟨r, u1, u2, e1, e2, h2⟩ := Sim_gauged (X := X) (x := X.getD (i + 1) 0) (y := X.getD (i + 2) 0) (z := X.getD (i + 3) 0) u d hI
  refine ⟨u2, h2, ?_⟩
  show gm_ev X (d + 201) 223 849 _ _ _ = _
  rw [bk_223_849]
  simp -implicitDefEqProofs (disch := first | exact na_85 | exact na_164 | exact c1_i | exact c1_r | exact k_0.trans mc_85.symm | exact k_116.trans mc_164.symm | omega | exact Nat.le_of_ble_eq_true rfl) only [bl_al0, bl_al1, bl_al2, bl_il3, bl_c1, bl_c2, bl_c3, bl_c4, bl_c5, bl_iadd, nI_add, bl_ial, hX, bl_iv4, e1, e2, Option.bind_some, Option.toList_some, List.cons_append, List.nil_append, bl_ic_eq, if_true, eq_self, ↓reduceIte, tn_1472]
theorem lw_22 (hl : X.length ≤ 384) (hi : i + 6 ≤ X.length) (hI : Inv u) : lwP X d i u 892 := by
  have hX := hX_ok hl
  obtain ⟨r, u1, u2, e1, e2, h2⟩ := Sim_fine (X := X)  u d hI
  refine ⟨u2, h2, ?_⟩
  show gm_ev X (d + 201) 223 892 _ _ _ = _
  rw [bk_223_892]
  simp -implicitDefEqProofs (disch := first | exact na_87 | exact na_165 | exact c1_i | exact c1_r | exact k_0.trans mc_87.symm | exact k_116.trans mc_165.symm | omega | exact Nat.le_of_ble_eq_true rfl) only [bl_al0, bl_al1, bl_al2, bl_il3, bl_c1, bl_c2, bl_c3, bl_c4, bl_c5, bl_iadd, nI_add, bl_ial, hX, bl_iv1, e1, e2, Option.bind_some, Option.toList_some, List.cons_append, List.nil_append, bl_ic_eq, if_true, eq_self, ↓reduceIte, tn_1472]
theorem lw_23 (hl : X.length ≤ 384) (hi : i + 6 ≤ X.length) (hI : Inv u) : lwP X d i u 905 := by
  have hX := hX_ok hl
  obtain ⟨r, u1, u2, e1, e2, h2⟩ := Sim_feed (X := X) (x := X.getD (i + 1) 0) (y := X.getD (i + 2) 0) (z := X.getD (i + 3) 0) u d hI
  refine ⟨u2, h2, ?_⟩
  show gm_ev X (d + 201) 223 905 _ _ _ = _
  rw [bk_223_905]
  simp -implicitDefEqProofs (disch := first | exact na_88 | exact na_167 | exact c1_i | exact c1_r | exact k_0.trans mc_88.symm | exact k_116.trans mc_167.symm | omega | exact Nat.le_of_ble_eq_true rfl) only [bl_al0, bl_al1, bl_al2, bl_il3, bl_c1, bl_c2, bl_c3, bl_c4, bl_c5, bl_iadd, nI_add, bl_ial, hX, bl_iv4, e1, e2, Option.bind_some, Option.toList_some, List.cons_append, List.nil_append, bl_ic_eq, if_true, eq_self, ↓reduceIte, tn_1472]
theorem lw_24 (hl : X.length ≤ 384) (hi : i + 6 ≤ X.length) (hI : Inv u) : lwP X d i u 948 := by
  have hX := hX_ok hl
  obtain ⟨r, u1, u2, e1, e2, h2⟩ := Sim_trim (X := X) (x := X.getD (i + 1) 0) u d hI
  refine ⟨u2, h2, ?_⟩
  show gm_ev X (d + 201) 223 948 _ _ _ = _
  rw [bk_223_948]
  simp -implicitDefEqProofs (disch := first | exact na_89 | exact na_168 | exact c1_i | exact c1_r | exact k_0.trans mc_89.symm | exact k_116.trans mc_168.symm | omega | exact Nat.le_of_ble_eq_true rfl) only [bl_al0, bl_al1, bl_al2, bl_il3, bl_c1, bl_c2, bl_c3, bl_c4, bl_c5, bl_iadd, nI_add, bl_ial, hX, bl_iv2, e1, e2, Option.bind_some, Option.toList_some, List.cons_append, List.nil_append, bl_ic_eq, if_true, eq_self, ↓reduceIte, tn_1472]
theorem lw_25 (hl : X.length ≤ 384) (hi : i + 6 ≤ X.length) (hI : Inv u) : lwP X d i u 971 := by
  have hX := hX_ok hl
  obtain ⟨r, u1, u2, e1, e2, h2⟩ := Sim_text (X := X)  u d hI
  refine ⟨u2, h2, ?_⟩
  show gm_ev X (d + 201) 223 971 _ _ _ = _
  rw [bk_223_971]
  simp -implicitDefEqProofs (disch := first | exact na_90 | exact na_185 | exact c1_i | exact c1_r | exact k_0.trans mc_90.symm | exact k_116.trans mc_185.symm | omega | exact Nat.le_of_ble_eq_true rfl) only [bl_al0, bl_al1, bl_al2, bl_il3, bl_c1, bl_c2, bl_c3, bl_c4, bl_c5, bl_iadd, nI_add, bl_ial, hX, bl_iv1, e1, e2, Option.bind_some, Option.toList_some, List.cons_append, List.nil_append, bl_ic_eq, if_true, eq_self, ↓reduceIte, tn_1472]
theorem lw_26 (hl : X.length ≤ 384) (hi : i + 6 ≤ X.length) (hI : Inv u) : lwP X d i u 984 := by
  have hX := hX_ok hl
  obtain ⟨r, u1, u2, e1, e2, h2⟩ := Sim_textTold (X := X) (x := X.getD (i + 1) 0) (y := X.getD (i + 2) 0) u d hI
  refine ⟨u2, h2, ?_⟩
  show gm_ev X (d + 201) 223 984 _ _ _ = _
  rw [bk_223_984]
  simp -implicitDefEqProofs (disch := first | exact na_91 | exact na_186 | exact c1_i | exact c1_r | exact k_0.trans mc_91.symm | exact k_116.trans mc_186.symm | omega | exact Nat.le_of_ble_eq_true rfl) only [bl_al0, bl_al1, bl_al2, bl_il3, bl_c1, bl_c2, bl_c3, bl_c4, bl_c5, bl_iadd, nI_add, bl_ial, hX, bl_iv3, e1, e2, Option.bind_some, Option.toList_some, List.cons_append, List.nil_append, bl_ic_eq, if_true, eq_self, ↓reduceIte, tn_1472]
theorem lw_27 (hl : X.length ≤ 384) (hi : i + 6 ≤ X.length) (hI : Inv u) : lwP X d i u 1017 := by
  have hX := hX_ok hl
  obtain ⟨r, u1, u2, e1, e2, h2⟩ := Sim_why (X := X) (x := X.getD (i + 1) 0) u d hI
  refine ⟨u2, h2, ?_⟩
  show gm_ev X (d + 201) 223 1017 _ _ _ = _
  rw [bk_223_1017]
  simp -implicitDefEqProofs (disch := first | exact na_92 | exact na_188 | exact c1_i | exact c1_r | exact k_0.trans mc_92.symm | exact k_116.trans mc_188.symm | omega | exact Nat.le_of_ble_eq_true rfl) only [bl_al0, bl_al1, bl_al2, bl_il3, bl_c1, bl_c2, bl_c3, bl_c4, bl_c5, bl_iadd, nI_add, bl_ial, hX, bl_iv2, e1, e2, Option.bind_some, Option.toList_some, List.cons_append, List.nil_append, bl_ic_eq, if_true, eq_self, ↓reduceIte, tn_1472]
theorem lw_28 (hl : X.length ≤ 384) (hi : i + 6 ≤ X.length) (hI : Inv u) : lwP X d i u 1040 := by
  have hX := hX_ok hl
  obtain ⟨r, u1, u2, e1, e2, h2⟩ := Sim_sheet (X := X) (x := X.getD (i + 1) 0) (y := X.getD (i + 2) 0) (z := X.getD (i + 3) 0) u d hI
  refine ⟨u2, h2, ?_⟩
  show gm_ev X (d + 201) 223 1040 _ _ _ = _
  rw [bk_223_1040]
  simp -implicitDefEqProofs (disch := first | exact na_93 | exact na_192 | exact c1_i | exact c1_r | exact k_0.trans mc_93.symm | exact k_116.trans mc_192.symm | omega | exact Nat.le_of_ble_eq_true rfl) only [bl_al0, bl_al1, bl_al2, bl_il3, bl_c1, bl_c2, bl_c3, bl_c4, bl_c5, bl_iadd, nI_add, bl_ial, hX, bl_iv4, e1, e2, Option.bind_some, Option.toList_some, List.cons_append, List.nil_append, bl_ic_eq, if_true, eq_self, ↓reduceIte, tn_1472]
theorem lw_29 (hl : X.length ≤ 384) (hi : i + 6 ≤ X.length) (hI : Inv u) : lwP X d i u 1083 := by
  have hX := hX_ok hl
  obtain ⟨r, u1, u2, e1, e2, h2⟩ := Sim_mark (X := X) (x := X.getD (i + 1) 0) (y := X.getD (i + 2) 0) (z := X.getD (i + 3) 0) u d hI
  refine ⟨u2, h2, ?_⟩
  show gm_ev X (d + 201) 223 1083 _ _ _ = _
  rw [bk_223_1083]
  simp -implicitDefEqProofs (disch := first | exact na_94 | exact na_193 | exact c1_i | exact c1_r | exact k_0.trans mc_94.symm | exact k_116.trans mc_193.symm | omega | exact Nat.le_of_ble_eq_true rfl) only [bl_al0, bl_al1, bl_al2, bl_il3, bl_c1, bl_c2, bl_c3, bl_c4, bl_c5, bl_iadd, nI_add, bl_ial, hX, bl_iv4, e1, e2, Option.bind_some, Option.toList_some, List.cons_append, List.nil_append, bl_ic_eq, if_true, eq_self, ↓reduceIte, tn_1472]
theorem lw_30 (hl : X.length ≤ 384) (hi : i + 6 ≤ X.length) (hI : Inv u) : lwP X d i u 1126 := by
  have hX := hX_ok hl
  obtain ⟨r, u1, u2, e1, e2, h2⟩ := Sim_pour (X := X) (x := X.getD (i + 1) 0) u d hI
  refine ⟨u2, h2, ?_⟩
  show gm_ev X (d + 201) 223 1126 _ _ _ = _
  rw [bk_223_1126]
  simp -implicitDefEqProofs (disch := first | exact na_95 | exact na_194 | exact c1_i | exact c1_r | exact k_0.trans mc_95.symm | exact k_116.trans mc_194.symm | omega | exact Nat.le_of_ble_eq_true rfl) only [bl_al0, bl_al1, bl_al2, bl_il3, bl_c1, bl_c2, bl_c3, bl_c4, bl_c5, bl_iadd, nI_add, bl_ial, hX, bl_iv2, e1, e2, Option.bind_some, Option.toList_some, List.cons_append, List.nil_append, bl_ic_eq, if_true, eq_self, ↓reduceIte, tn_1472]
theorem lw_31 (hl : X.length ≤ 384) (hi : i + 6 ≤ X.length) (hI : Inv u) : lwP X d i u 1149 := by
  have hX := hX_ok hl
  obtain ⟨r, u1, u2, e1, e2, h2⟩ := Sim_reads (X := X) (x := X.getD (i + 1) 0) u d hI
  refine ⟨u2, h2, ?_⟩
  show gm_ev X (d + 201) 223 1149 _ _ _ = _
  rw [bk_223_1149]
  simp -implicitDefEqProofs (disch := first | exact na_96 | exact na_195 | exact c1_i | exact c1_r | exact k_0.trans mc_96.symm | exact k_116.trans mc_195.symm | omega | exact Nat.le_of_ble_eq_true rfl) only [bl_al0, bl_al1, bl_al2, bl_il3, bl_c1, bl_c2, bl_c3, bl_c4, bl_c5, bl_iadd, nI_add, bl_ial, hX, bl_iv2, e1, e2, Option.bind_some, Option.toList_some, List.cons_append, List.nil_append, bl_ic_eq, if_true, eq_self, ↓reduceIte, tn_1472]
theorem lw_32 (hl : X.length ≤ 384) (hi : i + 6 ≤ X.length) (hI : Inv u) : lwP X d i u 1172 := by
  have hX := hX_ok hl
  obtain ⟨r, u1, u2, e1, e2, h2⟩ := Sim_copy (X := X) (x := X.getD (i + 1) 0) (y := X.getD (i + 2) 0) (z := X.getD (i + 3) 0) (v := X.getD (i + 4) 0) (q := X.getD (i + 5) 0) u d hI
  refine ⟨u2, h2, ?_⟩
  show gm_ev X (d + 201) 223 1172 _ _ _ = _
  rw [bk_223_1172]
  simp -implicitDefEqProofs (disch := first | exact na_97 | exact na_196 | exact c1_i | exact c1_r | exact k_0.trans mc_97.symm | exact k_116.trans mc_196.symm | omega | exact Nat.le_of_ble_eq_true rfl) only [bl_al0, bl_al1, bl_al2, bl_il3, bl_c1, bl_c2, bl_c3, bl_c4, bl_c5, bl_iadd, nI_add, bl_ial, hX, bl_iv6, e1, e2, Option.bind_some, Option.toList_some, List.cons_append, List.nil_append, bl_ic_eq, if_true, eq_self, ↓reduceIte, tn_1472]
theorem lw_33 (hl : X.length ≤ 384) (hi : i + 6 ≤ X.length) (hI : Inv u) : lwP X d i u 1235 := by
  have hX := hX_ok hl
  obtain ⟨r, u1, u2, e1, e2, h2⟩ := Sim_lay (X := X) (x := X.getD (i + 1) 0) (y := X.getD (i + 2) 0) (z := X.getD (i + 3) 0) u d hI
  refine ⟨u2, h2, ?_⟩
  show gm_ev X (d + 201) 223 1235 _ _ _ = _
  rw [bk_223_1235]
  simp -implicitDefEqProofs (disch := first | exact na_98 | exact na_199 | exact c1_i | exact c1_r | exact k_0.trans mc_98.symm | exact k_116.trans mc_199.symm | omega | exact Nat.le_of_ble_eq_true rfl) only [bl_al0, bl_al1, bl_al2, bl_il3, bl_c1, bl_c2, bl_c3, bl_c4, bl_c5, bl_iadd, nI_add, bl_ial, hX, bl_iv4, e1, e2, Option.bind_some, Option.toList_some, List.cons_append, List.nil_append, bl_ic_eq, if_true, eq_self, ↓reduceIte, tn_1472]
theorem lw_34 (hl : X.length ≤ 384) (hi : i + 6 ≤ X.length) (hI : Inv u) : lwP X d i u 1278 := by
  have hX := hX_ok hl
  obtain ⟨r, u1, u2, e1, e2, h2⟩ := Sim_ask (X := X) (x := X.getD (i + 1) 0) (y := X.getD (i + 2) 0) u d hI
  refine ⟨u2, h2, ?_⟩
  show gm_ev X (d + 201) 223 1278 _ _ _ = _
  rw [bk_223_1278]
  simp -implicitDefEqProofs (disch := first | exact na_99 | exact na_200 | exact c1_i | exact c1_r | exact k_0.trans mc_99.symm | exact k_116.trans mc_200.symm | omega | exact Nat.le_of_ble_eq_true rfl) only [bl_al0, bl_al1, bl_al2, bl_il3, bl_c1, bl_c2, bl_c3, bl_c4, bl_c5, bl_iadd, nI_add, bl_ial, hX, bl_iv3, e1, e2, Option.bind_some, Option.toList_some, List.cons_append, List.nil_append, bl_ic_eq, if_true, eq_self, ↓reduceIte, tn_1472]
theorem lw_35 (hl : X.length ≤ 384) (hi : i + 6 ≤ X.length) (hI : Inv u) : lwP X d i u 1311 := by
  have hX := hX_ok hl
  obtain ⟨r, u1, u2, e1, e2, h2⟩ := Sim_item (X := X) (x := X.getD (i + 1) 0) (y := X.getD (i + 2) 0) u d hI
  refine ⟨u2, h2, ?_⟩
  show gm_ev X (d + 201) 223 1311 _ _ _ = _
  rw [bk_223_1311]
  simp -implicitDefEqProofs (disch := first | exact na_100 | exact na_201 | exact c1_i | exact c1_r | exact k_0.trans mc_100.symm | exact k_116.trans mc_201.symm | omega | exact Nat.le_of_ble_eq_true rfl) only [bl_al0, bl_al1, bl_al2, bl_il3, bl_c1, bl_c2, bl_c3, bl_c4, bl_c5, bl_iadd, nI_add, bl_ial, hX, bl_iv3, e1, e2, Option.bind_some, Option.toList_some, List.cons_append, List.nil_append, bl_ic_eq, if_true, eq_self, ↓reduceIte, tn_1472]
theorem lw_36 (hl : X.length ≤ 384) (hi : i + 6 ≤ X.length) (hI : Inv u) : lwP X d i u 1344 := by
  have hX := hX_ok hl
  obtain ⟨r, u1, u2, e1, e2, h2⟩ := Sim_rest (X := X) (x := X.getD (i + 1) 0) (y := X.getD (i + 2) 0) u d hI
  refine ⟨u2, h2, ?_⟩
  show gm_ev X (d + 201) 223 1344 _ _ _ = _
  rw [bk_223_1344]
  simp -implicitDefEqProofs (disch := first | exact na_101 | exact na_202 | exact c1_i | exact c1_r | exact k_0.trans mc_101.symm | exact k_116.trans mc_202.symm | omega | exact Nat.le_of_ble_eq_true rfl) only [bl_al0, bl_al1, bl_al2, bl_il3, bl_c1, bl_c2, bl_c3, bl_c4, bl_c5, bl_iadd, nI_add, bl_ial, hX, bl_iv3, e1, e2, Option.bind_some, Option.toList_some, List.cons_append, List.nil_append, bl_ic_eq, if_true, eq_self, ↓reduceIte, tn_1472]
theorem lw_37 (hl : X.length ≤ 384) (hi : i + 6 ≤ X.length) (hI : Inv u) : lwP X d i u 1377 := by
  have hX := hX_ok hl
  obtain ⟨r, u1, u2, e1, e2, h2⟩ := Sim_tell (X := X) (x := X.getD (i + 1) 0) u d hI
  refine ⟨u2, h2, ?_⟩
  show gm_ev X (d + 201) 223 1377 _ _ _ = _
  rw [bk_223_1377]
  simp -implicitDefEqProofs (disch := first | exact na_102 | exact na_203 | exact c1_i | exact c1_r | exact k_0.trans mc_102.symm | exact k_116.trans mc_203.symm | omega | exact Nat.le_of_ble_eq_true rfl) only [bl_al0, bl_al1, bl_al2, bl_il3, bl_c1, bl_c2, bl_c3, bl_c4, bl_c5, bl_iadd, nI_add, bl_ial, hX, bl_iv2, e1, e2, Option.bind_some, Option.toList_some, List.cons_append, List.nil_append, bl_ic_eq, if_true, eq_self, ↓reduceIte, tn_1472]
theorem lw_38 (hl : X.length ≤ 384) (hi : i + 6 ≤ X.length) (hI : Inv u) : lwP X d i u 1400 := by
  have hX := hX_ok hl
  obtain ⟨r, u1, u2, e1, e2, h2⟩ := Sim_check (X := X) (x := X.getD (i + 1) 0) u d hI
  refine ⟨u2, h2, ?_⟩
  show gm_ev X (d + 201) 223 1400 _ _ _ = _
  rw [bk_223_1400]
  simp -implicitDefEqProofs (disch := first | exact na_103 | exact na_204 | exact c1_i | exact c1_r | exact k_0.trans mc_103.symm | exact k_116.trans mc_204.symm | omega | exact Nat.le_of_ble_eq_true rfl) only [bl_al0, bl_al1, bl_al2, bl_il3, bl_c1, bl_c2, bl_c3, bl_c4, bl_c5, bl_iadd, nI_add, bl_ial, hX, bl_iv2, e1, e2, Option.bind_some, Option.toList_some, List.cons_append, List.nil_append, bl_ic_eq, if_true, eq_self, ↓reduceIte, tn_1472]
theorem lw_39 (hl : X.length ≤ 384) (hi : i + 6 ≤ X.length) (hI : Inv u) : lwP X d i u 1423 := by
  have hX := hX_ok hl
  obtain ⟨r, u1, u2, e1, e2, h2⟩ := Sim_keep (X := X)  u d hI
  refine ⟨u2, h2, ?_⟩
  show gm_ev X (d + 201) 223 1423 _ _ _ = _
  rw [bk_223_1423]
  simp -implicitDefEqProofs (disch := first | exact na_104 | exact na_205 | exact c1_i | exact c1_r | exact k_0.trans mc_104.symm | exact k_116.trans mc_205.symm | omega | exact Nat.le_of_ble_eq_true rfl) only [bl_al0, bl_al1, bl_al2, bl_il3, bl_c1, bl_c2, bl_c3, bl_c4, bl_c5, bl_iadd, nI_add, bl_ial, hX, bl_iv1, e1, e2, Option.bind_some, Option.toList_some, List.cons_append, List.nil_append, bl_ic_eq, if_true, eq_self, ↓reduceIte, tn_1472]
theorem lw_40 (hl : X.length ≤ 384) (hi : i + 6 ≤ X.length) (hI : Inv u) : lwP X d i u 1436 := by
  have hX := hX_ok hl
  obtain ⟨r, u1, u2, e1, e2, h2⟩ := Sim_back (X := X)  u d hI
  refine ⟨u2, h2, ?_⟩
  show gm_ev X (d + 201) 223 1436 _ _ _ = _
  rw [bk_223_1436]
  simp -implicitDefEqProofs (disch := first | exact na_105 | exact na_206 | exact c1_i | exact c1_r | exact k_0.trans mc_105.symm | exact k_116.trans mc_206.symm | omega | exact Nat.le_of_ble_eq_true rfl) only [bl_al0, bl_al1, bl_al2, bl_il3, bl_c1, bl_c2, bl_c3, bl_c4, bl_c5, bl_iadd, nI_add, bl_ial, hX, bl_iv1, e1, e2, Option.bind_some, Option.toList_some, List.cons_append, List.nil_append, bl_ic_eq, if_true, eq_self, ↓reduceIte, tn_1472]
theorem lw_41 (hl : X.length ≤ 384) (hi : i + 6 ≤ X.length) (hI : Inv u) : lwP X d i u 1449 := by
  have hX := hX_ok hl
  obtain ⟨r, u1, u2, e1, e2, h2⟩ := Sim_count (X := X) (x := X.getD (i + 1) 0) u d hI
  refine ⟨u2, h2, ?_⟩
  show gm_ev X (d + 201) 223 1449 _ _ _ = _
  rw [bk_223_1449]
  simp -implicitDefEqProofs (disch := first | exact na_106 | exact na_207 | exact c1_i | exact c1_r | exact k_0.trans mc_106.symm | exact k_116.trans mc_207.symm | omega | exact Nat.le_of_ble_eq_true rfl) only [bl_al0, bl_al1, bl_al2, bl_il3, bl_c1, bl_c2, bl_c3, bl_c4, bl_c5, bl_iadd, nI_add, bl_ial, hX, bl_iv2, e1, e2, Option.bind_some, Option.toList_some, List.cons_append, List.nil_append, bl_ic_eq, if_true, eq_self, ↓reduceIte, tn_1472]
theorem lw_cond {len : Nat} (hl : len ≤ 384) (hi : i ≤ 1000) : (nI len - nI 6 < nI i) = (len < i + 6) := by
  have e6 : (nI 6).toInt = 6 := nI_toInt (by omega)
  have el : (nI len).toInt = len := nI_toInt (by omega)
  have ei : (nI i).toInt = i := nI_toInt (by omega)
  rw [lt_toInt, sub_toInt (by omega) (by omega), el, e6, ei]
  apply propext
  omega
theorem lw_loop (hl : X.length ≤ 384) : ∀ (k i : Nat) (u : gt_M), X.length ≤ i + 6 * k + 5 → i ≤ 400 → Inv u → ∃ u', gm_ev X (d + 201) 223 18 [.ref 10000, .ref 0, .ref 116, .int (nI i)] [] (gt_h u) = some (some (.int (nI 1)), gt_h u') := by
  intro k
  induction k with
  | zero =>
    intro i u h1 h2 hI
    refine ⟨u, ?_⟩
    have c := lw_cond (i := i) hl (by omega)
    have c1 : nI X.length - nI 6 < nI i := by rw [c]; omega
    rw [bk_223_18]
    simp -implicitDefEqProofs (disch := omega) only [bl_il3, bl_al0, bl_len, hX_len, Option.bind_some, bl_c6, bl_isub, bl_ic_gt, c1, if_true, ↓reduceIte, tn_1478]
    rw [bk_223_1478]
    simp -implicitDefEqProofs (disch := exact rt_223) only [bl_c1, bl_rz1]
  | succ k ih =>
    intro i u h1 h2 hI
    have c := lw_cond (i := i) hl (by omega)
    by_cases hx : X.length < i + 6
    · refine ⟨u, ?_⟩
      have c1 : nI X.length - nI 6 < nI i := by rw [c]; exact hx
      rw [bk_223_18]
      simp -implicitDefEqProofs (disch := omega) only [bl_il3, bl_al0, bl_len, hX_len, Option.bind_some, bl_c6, bl_isub, bl_ic_gt, c1, if_true, ↓reduceIte, tn_1478]
      rw [bk_223_1478]
      simp -implicitDefEqProofs (disch := exact rt_223) only [bl_c1, bl_rz1]
    · have c1 : ¬ nI X.length - nI 6 < nI i := by rw [c]; exact hx
      have hi : i + 6 ≤ X.length := by omega
      have hX := hX_ok hl
      have e1 : gm_ev X (d + 201) 223 18 [.ref 10000, .ref 0, .ref 116, .int (nI i)] [] (gt_h u) = gm_ev X (d + 201) 223 (gm_sw 1472 (X.getD i 0 &&& nI 63).toInt lwz_tbl).toNat [.ref 10000, .ref 0, .ref 116, .int (nI i)] [] (gt_h u) := by
        rw [bk_223_18]
        simp -implicitDefEqProofs (disch := omega) only [bl_il3, bl_al0, bl_len, hX_len, Option.bind_some, bl_c6, bl_isub, bl_ic_gt, c1, if_false, ↓reduceIte, bl_ial, hX, bl_c63, bl_iand, bl_sw]
        rfl
      have P : lwP X d i u (gm_sw 1472 (X.getD i 0 &&& nI 63).toInt lwz_tbl) := gm_sw_P (P := lwP X d i u) ⟨u, hI, rfl⟩ lwz_tbl ⟨lw_0 hl hi hI, lw_1 hl hi hI, lw_2 hl hi hI, lw_3 hl hi hI, lw_4 hl hi hI, lw_5 hl hi hI, lw_6 hl hi hI, lw_7 hl hi hI, lw_8 hl hi hI, lw_9 hl hi hI, lw_10 hl hi hI, lw_11 hl hi hI, lw_12 hl hi hI, lw_13 hl hi hI, lw_14 hl hi hI, lw_15 hl hi hI, lw_16 hl hi hI, lw_17 hl hi hI, lw_18 hl hi hI, lw_19 hl hi hI, lw_20 hl hi hI, lw_21 hl hi hI, lw_22 hl hi hI, lw_23 hl hi hI, lw_24 hl hi hI, lw_25 hl hi hI, lw_26 hl hi hI, lw_27 hl hi hI, lw_28 hl hi hI, lw_29 hl hi hI, lw_30 hl hi hI, lw_31 hl hi hI, lw_32 hl hi hI, lw_33 hl hi hI, lw_34 hl hi hI, lw_35 hl hi hI, lw_36 hl hi hI, lw_37 hl hi hI, lw_38 hl hi hI, lw_39 hl hi hI, lw_40 hl hi hI, lw_41 hl hi hI, trivial⟩
      obtain ⟨u2, h3, e2⟩ := P
      obtain ⟨u', e⟩ := ih (i + 6) u2 (by omega) (by omega) h3
      refine ⟨u', ?_⟩
      rw [e1, e2, ← e, bk_223_1472]
      simp -implicitDefEqProofs only [bl_in3_6, nI_add, bl_goto, tn_18]
end C45
theorem lw_start {X : List Int32} {d : Nat} : gm_ev X (d + 201) 223 0 [.ref 10000, .retAddr 0, .retAddr 0, .retAddr 0] [] [] = gm_ev X (d + 201) 223 18 [.ref 10000, .ref 0, .ref 116, .int (nI 0)] [] (gt_h gt_m0) := by
  have hlen : ((gt_h gt_m0).take 116).length = 116 := by
    rw [List.length_take, gt_h_len]
    rfl
  rw [gm_ev_next X (show gm_at 223 0 = some (.new 8, 3) by decide +kernel) (show gm_stp X (gm_rt 223) (.new 8) 3 [.ref 10000, .retAddr 0, .retAddr 0, .retAddr 0] [] [] = some (.inl (3, [.ref 10000, .retAddr 0, .retAddr 0, .retAddr 0], [.ref 0], [.inr (8, gm_new 8)])) from rfl)]
  rw [gm_ev_next X (show gm_at 223 3 = some (.dup, 4) by decide +kernel) (show gm_stp X (gm_rt 223) .dup 4 [.ref 10000, .retAddr 0, .retAddr 0, .retAddr 0] [.ref 0] [.inr (8, gm_new 8)] = some (.inl (4, [.ref 10000, .retAddr 0, .retAddr 0, .retAddr 0], [.ref 0, .ref 0], [.inr (8, gm_new 8)])) from rfl)]
  have s1 : gm_stp X (gm_rt 223) (.invokespecial 57) 7 [.ref 10000, .retAddr 0, .retAddr 0, .retAddr 0] [.ref 0, .ref 0] [.inr (8, gm_new 8)] = some (.inr (.inr (57, 7, [.ref 0], [.ref 0]))) := by
    simp only [gm_stp, gm_cal, na_57]
    rfl
  rw [gm_ev_call X (d := d + 200) (show gm_at 223 4 = some (.invokespecial 57, 7) by decide +kernel) s1, con1 (d := d + 190)]
  show gm_ev X (d + 201) 223 7 [.ref 10000, .retAddr 0, .retAddr 0, .retAddr 0] [.ref 0] ((gt_h gt_m0).take 116) = _
  rw [gm_ev_next X (show gm_at 223 7 = some (.astore 1, 8) by decide +kernel) (show gm_stp X (gm_rt 223) (.astore 1) 8 [.ref 10000, .retAddr 0, .retAddr 0, .retAddr 0] [.ref 0] ((gt_h gt_m0).take 116) = some (.inl (8, [.ref 10000, .ref 0, .retAddr 0, .retAddr 0], [], (gt_h gt_m0).take 116)) from rfl)]
  have s2 : gm_stp X (gm_rt 223) (.new 9) 11 [.ref 10000, .ref 0, .retAddr 0, .retAddr 0] [] ((gt_h gt_m0).take 116) = some (.inl (11, [.ref 10000, .ref 0, .retAddr 0, .retAddr 0], [.ref 116], (gt_h gt_m0).take 116 ++ [.inr (9, gm_new 9)])) := by
    simp only [gm_stp, hlen]
    rfl
  rw [gm_ev_next X (show gm_at 223 8 = some (.new 9, 11) by decide +kernel) s2]
  rw [gm_ev_next X (show gm_at 223 11 = some (.dup, 12) by decide +kernel) (show gm_stp X (gm_rt 223) .dup 12 [.ref 10000, .ref 0, .retAddr 0, .retAddr 0] [.ref 116] ((gt_h gt_m0).take 116 ++ [.inr (9, gm_new 9)]) = some (.inl (12, [.ref 10000, .ref 0, .retAddr 0, .retAddr 0], [.ref 116, .ref 116], (gt_h gt_m0).take 116 ++ [.inr (9, gm_new 9)])) from rfl)]
  have s3 : gm_stp X (gm_rt 223) (.invokespecial 114) 15 [.ref 10000, .ref 0, .retAddr 0, .retAddr 0] [.ref 116, .ref 116] ((gt_h gt_m0).take 116 ++ [.inr (9, gm_new 9)]) = some (.inr (.inr (114, 15, [.ref 116], [.ref 116]))) := by
    simp only [gm_stp, gm_cal, na_114]
    rfl
  rw [gm_ev_call X (d := d + 200) (show gm_at 223 12 = some (.invokespecial 114, 15) by decide +kernel) s3, con2 (d := d + 190)]
  show gm_ev X (d + 201) 223 15 [.ref 10000, .ref 0, .retAddr 0, .retAddr 0] [.ref 116] (gt_h gt_m0) = _
  rw [gm_ev_next X (show gm_at 223 15 = some (.astore 2, 16) by decide +kernel) (show gm_stp X (gm_rt 223) (.astore 2) 16 [.ref 10000, .ref 0, .retAddr 0, .retAddr 0] [.ref 116] (gt_h gt_m0) = some (.inl (16, [.ref 10000, .ref 0, .ref 116, .retAddr 0], [], gt_h gt_m0)) from rfl)]
  rw [gm_ev_next X (show gm_at 223 16 = some (.iconst 0, 17) by decide +kernel) (show gm_stp X (gm_rt 223) (.iconst 0) 17 [.ref 10000, .ref 0, .ref 116, .retAddr 0] [] (gt_h gt_m0) = some (.inl (17, [.ref 10000, .ref 0, .ref 116, .retAddr 0], [.int (nI 0)], gt_h gt_m0)) from rfl)]
  rw [gm_ev_next X (show gm_at 223 17 = some (.istore 3, 18) by decide +kernel) (show gm_stp X (gm_rt 223) (.istore 3) 18 [.ref 10000, .ref 0, .ref 116, .retAddr 0] [.int (nI 0)] (gt_h gt_m0) = some (.inl (18, [.ref 10000, .ref 0, .ref 116, .int (nI 0)], [], gt_h gt_m0)) from rfl)]
theorem gm_law : gm_Law := by
  intro X hl
  obtain ⟨u', e⟩ := lw_loop (d := 0) hl 64 0 gt_m0 (by omega) (by omega) Inv_m0
  rw [← lw_start] at e
  have e' : gm_cl' X (0 + 201) 223 [.ref 10000] [] = some (some (.int (nI 1)), gt_h u') := by
    rw [cl_223]
    exact e
  unfold gm_cl' at e'
  obtain ⟨n, hn⟩ := (gm_ev_iff X).mp e'
  exact ⟨n, 201, gt_h u', by omega, hn, by rw [gt_h_len]; omega, by rw [gm_sl_u (u' := gt_m0)]; exact gm_sl_m0⟩
