-- the machine's soundness: frames, calls, one induction on the fuel
def gm_Snd (D : va_G) (z : Nat) (E : Nat → Nat) (fm : Value) (dA : Nat → ClassId) (X : List Int32) (d i pc : Nat) (L st : List Value) (h : gm_H) (r : Option Value) (h' : gm_H) : Prop :=
  ∀ (p : Program) (l : Launch) (e : Env) (R : Room) (s : State) (m : MethodId) (args : Array Value) (below : List Frame) (meth : Method) (c : Code) (Q : State → Prop) (H : Heap) (locs : List Loc) (cells slots : Nat) (ls : Array Slot),
    gm_Fr D z E fm dA X i d p R s m args meth c → va_P D gm_cl (gm_ws z E fm dA h) H → va_S (gm_A z) s.heap H locs → gm_LR z E fm ls (gm_ml i) L → s.heap.size + cells = z + h.length → cells + (h'.length - h.length) ≤ R.cells → slots + (gm_sl h' - gm_sl h) ≤ R.slots →
    (∀ (H1 : Heap) (locs1 : List Loc) (ls1 : Array Slot) (pc1 : Nat), va_P D gm_cl (gm_ws z E fm dA h') H1 → va_S (gm_A z) s.heap H1 locs1 → gm_ret i pc1 r → W p l e R s m args below meth c H1 locs1 (cells + (h'.length - h.length)) (slots + (gm_sl h' - gm_sl h)) Q (F0 m pc1 ls1 ((r.map (gm_cv z E fm)).toList))) →
    W p l e R s m args below meth c H locs cells slots Q (F0 m pc ls (st.map (gm_cv z E fm)))
def gm_rm (d mc ms : Nat) : Room := { frames := d + 1, cells := mc, slots := ms, locals := 40 * d + 40 }
abbrev gm_wsj (j : Nat) : List Cond := Cond.code (gm_y j) (gm_by j) (gm_ml j) (gm_rt j) :: gm_gw
theorem gm_mi_facts (j : Nat) : gm_na j ≤ gm_ml j ∧ gm_ml j ≤ 12 ∧ gm_cn (gm_mc j) = (gm_y j).cls ∧ (gm_y j).cls ≠ "java/lang/invoke/MethodHandle" ∧ (gm_y j).cls ≠ "java/lang/invoke/VarHandle" ∧ plainFor (gm_y j) = true := by
  have h := gm_mi_ok j
  simp only [gm_miok, Bool.and_eq_true, decide_eq_true_eq] at h
  exact ⟨h.1, h.2.1, h.2.2.1, h.2.2.2.1, h.2.2.2.2.1, h.2.2.2.2.2.1⟩
theorem gm_mt_lt : gm_mt.all (fun q => decide (q.2.2.2.2.2 < 24)) = true := by decide +kernel
theorem gm_mc_lt (i : Nat) : gm_mc i < 24 := by
  unfold gm_mc gm_mi
  rw [List.getD_eq_getElem?_getD]
  cases h : gm_mt[i]? with
  | none => rw [Option.getD_none]; decide
  | some q => exact of_decide_eq_true (List.all_eq_true.mp gm_mt_lt q (List.mem_of_getElem? h))
section GM9
variable {z : Nat} {E : Nat → Nat} {fm : Value} {dA : Nat → ClassId} {D : va_G} {X : List Int32}
set_option maxHeartbeats 4000000 in
theorem gm_met (l : Launch) {j d : Nat} {as : List Value} {h h' : gm_H} {r : Option Value} (hc : as.all gm_cat1 = true) (hn : as.length ≤ gm_ml j) (hI : gm_Snd D z E fm dA X d j 0 (gm_ent j as) [] h r h') :
    Met l (gm_y j) (gm_wsj j) (gm_rm d (h'.length - h.length) (gm_sl h' - gm_sl h)) (gm_Pc D z E fm dA X as h) (gm_Qc D z E fm dA r h') (h'.length - h.length) (gm_sl h' - gm_sl h) (gm_A z) := by
  obtain ⟨-, -, hcn, -, -, hpl⟩ := gm_mi_facts j
  refine va_MetF (cc := gm_by j) (maxL := gm_ml j) (ret := gm_rt j) hpl rfl ?_
  intro p e s m args below meth c s₁ B hml hv
  obtain ⟨rfl, ⟨hsz, hP⟩, hE⟩ := hv
  have hts := atoms_spec (ws := gm_wsj j) B.pre
  have hlocks := B.notSynchronized
  have F : gm_Fr D z E fm dA X j d p (gm_rm d (h'.length - h.length) (gm_sl h' - gm_sl h)) s m (as.map (gm_cv z E fm)).toArray meth c :=
    ⟨⟨B.exec, B.bytes, B.returns, hml, by rw [hcn]; exact findClass_of_methodNamed B.named⟩, fun w hw => hts w (List.mem_cons_of_mem _ hw), hlocks, fun y => (name_of_methodNamed B.named B.method).1.trans y, hE, Nat.le_refl _, Nat.le_refl _⟩
  have hlen : (lg_sl (as.map (gm_cv z E fm))).length ≤ gm_ml j := by
    have key : ∀ vs : List Value, vs.all gm_cat1 = true → (lg_sl (vs.map (gm_cv z E fm))).length = vs.length := by
      intro vs
      induction vs with
      | nil => intro _; rfl
      | cons a vs ih =>
        intro ha
        simp only [List.all_cons, Bool.and_eq_true] at ha
        have hcat : (gm_cv z E fm a).category = 1 := gm_cv_cat hE.2.2.2.2.2.2.2.2.2.2.2.2 ha.1
        have e0 : lg_sl (gm_cv z E fm a :: vs.map (gm_cv z E fm)) = [Slot.val (gm_cv z E fm a)] ++ lg_sl (vs.map (gm_cv z E fm)) := by
          unfold lg_sl
          rw [List.flatMap_cons, if_neg (by omega)]
        rw [List.map_cons, e0, List.length_append, ih ha.2, List.length_cons, List.length_cons, List.length_nil]
        omega
    rw [key as hc]
    exact hn
  have hl := lv_entry (as.map (gm_cv z E fm)) (n := gm_ml j) hlen
  rw [lg_entry_eq]
  generalize (lg_sl (as.map (gm_cv z E fm)) ++ List.replicate (gm_ml j - (lg_sl (as.map (gm_cv z E fm))).length) Slot.unset).toArray = ls at hl ⊢
  refine hI p l e _ s m _ below meth c _ s.heap [] 0 0 ls F hP va_S.rf (gm_ent_LR hc hn hl hE.2.2.2.2.2.2.2.2.2.2.2.2) (by omega) (Nat.le_of_eq (Nat.zero_add _)) (Nat.le_of_eq (Nat.zero_add _)) (fun H1 locs1 ls1 pc1 g1 g2 g3 => ?_)
  rw [Nat.zero_add, Nat.zero_add]
  rcases g3 with ⟨v, ty, rfl, hd, hty, hnr⟩ | ⟨rfl, hty, hd⟩
  · exact W.zret B.exec B.bytes (B.returns.trans hty) hnr (fun t ht hW => ⟨rfl, by rw [ht]; exact g1, g2.F ht⟩) g2.2.2 hd
  · exact W.vret B.exec B.bytes (B.returns.trans hty) (fun t ht hW => ⟨rfl, by rw [ht]; exact g1, g2.F ht⟩) g2.2.2 hd
variable {p : Program} {l : Launch} {e : Env} {R : Room} {s : State} {m : MethodId} {args : Array Value} {below : List Frame} {meth : Method} {c : Code} {Q : State → Prop} {H : Heap} {locs : List Loc} {cells slots : Nat} {ls : Array Slot} {i d pc pc' nx : Nat} {L st L' st' : List Value} {h h' : gm_H}
theorem gm_cal_ok {j nx j' nx' : Nat} {st as rest : List Value} (hs : gm_cal j nx st = some (.inr (.inr (j', nx', as, rest)))) : j' = j ∧ nx' = nx ∧ gm_na j ≤ st.length ∧ as = (st.take (gm_na j)).reverse ∧ rest = st.drop (gm_na j) ∧ (rest.map fun v => v.category).sum ≤ 8 ∧ as.all gm_cat1 = true := by
  unfold gm_cal at hs
  split at hs
  · rename_i hc
    simp only [Option.some.injEq, Sum.inr.injEq, Prod.mk.injEq] at hs
    obtain ⟨rfl, rfl, rfl, rfl⟩ := hs
    refine ⟨rfl, rfl, hc.1, rfl, rfl, hc.2.1, ?_⟩
    rw [List.all_reverse]
    exact hc.2.2
  · cases hs
theorem gm_wsj_good {j : Nat} (hj : j < 223) : GoodIn gm_gw (gm_wsj j) := gm_good (fun w hw => by
  rcases List.mem_cons.mp hw with y | y
  · rw [y]; exact gm_cw hj
  · exact y)
theorem gm_st_split {n : Nat} (st : List Value) : st.map (gm_cv z E fm) = (((st.take n).reverse).map (gm_cv z E fm)).reverse ++ (st.drop n).map (gm_cv z E fm) := by
  rw [← List.map_reverse, List.reverse_reverse, ← List.map_append, List.take_append_drop]
/-- a call, any kind: the callee's frames are sound, and what comes behind it -/
theorem gm_call {op : Instr} {j nx' : Nat} {as rest : List Value} {r : Option Value} {d : Nat} (F : gm_Fr D z E fm dA X i (d + 1) p R s m args meth c) (hat : gm_at i pc = some (op, nx)) (hs : gm_stp X (gm_rt i) op nx L st h = some (.inr (.inr (j, nx', as, rest)))) (hP : va_P D gm_cl (gm_ws z E fm dA h) H) (hS : va_S (gm_A z) s.heap H locs) (hL : gm_LR z E fm ls (gm_ml i) L) (hcz : s.heap.size + cells = z + h.length)
    (hrc : cells + (h'.length - h.length) ≤ R.cells) (hrs : slots + (gm_sl h' - gm_sl h) ≤ R.slots) (hI : gm_Snd D z E fm dA X d j 0 (gm_ent j as) [] h r h')
    (kk : ∀ (H1 : Heap) (locs1 : List Loc), va_P D gm_cl (gm_ws z E fm dA h') H1 → va_S (gm_A z) s.heap H1 locs1 → W p l e R s m args below meth c H1 locs1 (cells + (h'.length - h.length)) (slots + (gm_sl h' - gm_sl h)) Q (F0 m nx' ls ((r.map (gm_cv z E fm)).toList ++ rest.map (gm_cv z E fm)))) : W p l e R s m args below meth c H locs cells slots Q (F0 m pc ls (st.map (gm_cv z E fm))) := by
  obtain ⟨⟨hx, hb, hr, hml, hown⟩, hts, hlk, hnm, hE, hfr, hlo⟩ := F
  obtain ⟨real, len, hnx, hd, hq⟩ := gm_at_ok hat
  have hzH : z ≤ H.size := Nat.le_trans hE.1 hS.1
  refine gm_Wsize (fun g4 => ?_)
  have hH : H.size = z + h.length := by have := gm_low hP hzH; omega
  have hfc := hE.2.2.2.2.2.2.2.2.2.2.2.2
  have hfix : CallFix p m c (gm_by i) (gm_ml i) s args gm_gw (gm_cn (gm_mc i)) := ⟨hx, hb, hml, hown, hts⟩
  have hpre : ∀ U : State, U.heap = H → s.WarmedH U.vm → gm_Pc D z E fm dA X as h (as.map (gm_cv z E fm)).toArray U := fun U hU hW => ⟨rfl, ⟨by rw [hU]; exact hH, by rw [hU]; exact hP⟩, gm_Ext.warm hW hU hS hE⟩
  obtain ⟨f1, f2, f3, f4, f5, -⟩ := gm_mi_facts j
  have hroom : (gm_rm d (h'.length - h.length) (gm_sl h' - gm_sl h)).frames + 1 ≤ R.frames ∧ 8 + (gm_ml j + 11) + (gm_rm d (h'.length - h.length) (gm_sl h' - gm_sl h)).locals ≤ R.locals := by
    show d + 1 + 1 ≤ R.frames ∧ 8 + (gm_ml j + 11) + (40 * d + 40) ≤ R.locals
    omega
  have recv : ∀ (a : Nat) (tl : List Value), 0 < gm_na j → as = (st.take (gm_na j)).reverse → rest = st.drop (gm_na j) → st.drop (gm_na j - 1) = .ref a :: tl → ¬ a = 10050 → as.map (gm_cv z E fm) = .ref (gm_ad z E a) :: ((st.take (gm_na j - 1)).reverse).map (gm_cv z E fm) ∧ st.map (gm_cv z E fm) = (((st.take (gm_na j - 1)).reverse).map (gm_cv z E fm)).reverse ++ .ref (gm_ad z E a) :: rest.map (gm_cv z E fm) := by
    intro a tl hn0 has hrest hdr h50
    have hget : st[gm_na j - 1]? = some (.ref a) := by
      have y := congrArg (fun l => l[0]?) hdr
      simp only [List.getElem?_drop, Nat.add_zero, List.getElem?_cons_zero] at y
      exact y
    have htk : st.take (gm_na j) = st.take (gm_na j - 1) ++ [.ref a] := by
      rw [show gm_na j = (gm_na j - 1) + 1 by omega, List.take_succ, Nat.add_sub_cancel, hget]
      rfl
    have hdr2 : st.drop (gm_na j) = tl := by
      have y := congrArg (List.drop 1) hdr
      rw [List.drop_drop, show gm_na j - 1 + 1 = gm_na j by omega] at y
      exact y
    refine ⟨?_, ?_⟩
    · rw [has, htk]
      simp [gm_cv_ref h50]
    · conv => lhs; rw [← List.take_append_drop (gm_na j - 1) st, hdr]
      rw [List.map_append, List.map_cons, gm_cv_ref h50, ← List.map_reverse, List.reverse_reverse, hrest, hdr2]
  have hgo : ∀ {a : Nat} {L st : List Value} {h : gm_H}, gm_go a L st h = some (.inr (.inr (j, nx', as, rest))) → False := fun y => by simp [gm_go] at y
  cases op with
  | invokestatic j0 =>
    obtain ⟨rfl, rfl, hna, has, hrest, hsum, hcat⟩ := gm_cal_ok hs
    cases real with
    | invokestatic q =>
      simp only [gm_res, Bool.and_eq_true, beq_iff_eq] at hq
      obtain ⟨q1, rfl⟩ := hq
      subst hnx
      obtain ⟨w1, w2, w3, w4, w5, hw⟩ := gm_anyM_ok q1
      simp only [gm_mok] at hw
      rw [if_neg (by omega), if_neg (by omega)] at hw
      simp only [Bool.and_eq_true, decide_eq_true_eq, if_true] at hw
      obtain ⟨m1, m2, m3, m4, m5⟩ := hw
      rw [if_neg (by omega)] at m5
      have hM := gm_met l (D := D) (X := X) hcat (by rw [has, List.length_reverse, List.length_take]; omega) hI
      refine gm_after rfl (va_runS (As := as.map (gm_cv z E fm)) (rest := rest.map (gm_cv z E fm)) hfix hM ⟨callB_of (gm_na j) hts (gm_wsj_good m3) rfl rfl rfl (hts _ (gm_in_ok m2)) (hts _ (gm_in_ok m1)) ⟨f4, f5, m4⟩ hroom, hts _ (gm_in_ok m5)⟩ ⟨gm_Pc_blind, hpre⟩ rfl (by rw [List.length_map, has, List.length_reverse, List.length_take]; omega) hL.1.1 (by rw [has, hrest]; exact gm_st_split st) (lv_room (by rw [gm_cat_sum hfc]; exact hsum)) hd ⟨hrc, hrs⟩) hS kk
    | _ => simp [gm_res] at hq
  | invokeinterface j0 k0 =>
    obtain ⟨rfl, rfl, hna, has, hrest, hsum, hcat⟩ := gm_cal_ok hs
    cases real with
    | invokestatic q =>
      simp only [gm_res, Bool.and_eq_true, beq_iff_eq] at hq
      obtain ⟨q1, rfl⟩ := hq
      subst hnx
      obtain ⟨w1, w2, w3, w4, hmem, hw⟩ := gm_anyN_ok q1
      simp only [gm_nok, Bool.and_eq_true, decide_eq_true_eq] at hw
      obtain ⟨m1, m2, m3, m4⟩ := hw
      have hM := gm_met l (D := D) (X := X) hcat (by rw [has, List.length_reverse, List.length_take]; omega) hI
      have hnest := hE.2.2.2.2.2.2.2.2.1 _ hmem
      dsimp only at hnest
      refine gm_after rfl (va_runSN (As := as.map (gm_cv z E fm)) (rest := rest.map (gm_cv z E fm)) hfix hM ⟨va_cnB (gm_na j) hts (gm_wsj_good m3) rfl rfl rfl hnest (hts _ (gm_in_ok m2)) ⟨f4, f5, m4⟩ hroom, hts _ (gm_in_ok m1), trivial⟩ ⟨gm_Pc_blind, hpre⟩ rfl (by rw [List.length_map, has, List.length_reverse, List.length_take]; omega) hL.1.1 (by rw [has, hrest]; exact gm_st_split st) (lv_room (by rw [gm_cat_sum hfc]; exact hsum)) hd ⟨hrc, hrs⟩) hS kk
    | _ => simp [gm_res] at hq
  | invokevirtual j0 =>
    simp only [gm_stp] at hs
    split at hs
    · rename_i a tl hdr
      split at hs
      · rename_i hcls
        obtain ⟨rfl, rfl, hna, has, hrest, hsum, hcat⟩ := gm_cal_ok hs
        cases real with
        | invokevirtual q =>
          simp only [gm_res, Bool.and_eq_true, beq_iff_eq] at hq
          obtain ⟨q1, rfl⟩ := hq
          subst hnx
          obtain ⟨w1, w2, w3, w4, w5, hw⟩ := gm_anyM_ok q1
          simp only [gm_mok] at hw
          rw [if_neg (by omega), if_neg (by omega)] at hw
          simp only [Bool.and_eq_true, decide_eq_true_eq, if_true] at hw
          obtain ⟨m1, m2, m3, m4, m5, m6, m7⟩ := hw
          rw [if_neg (by omega)] at m4
          have hM := gm_met l (D := D) (X := X) hcat (by rw [has, List.length_reverse, List.length_take]; omega) hI
          have hlt := gm_mc_lt j
          have h50 : ¬ a = 10050 := by
            intro y
            subst y
            have e0 : gm_cls h 10050 = 98 := by simp [gm_cls]
            omega
          obtain ⟨r1, r2⟩ := recv a tl m7 has hrest hdr h50
          have hcell : ∃ cellB : Cell, H[gm_ad z E a]? = some cellB ∧ cellB.vm.isStatics = false ∧ s.vm.findClass (gm_y j).cls = some cellB.cls := by
            unfold gm_cls at hcls
            split at hcls
            · rename_i ha
              rw [gm_ad_in ha]
              split at hcls
              · rename_i c0 fs hc
                obtain ⟨hc10, hcl⟩ := gm_obj hP hc
                rw [← f3, ← hcls, ← gm_cl_cn c0 hc10]
                exact va_recv hE.2.1 hP hcl (gm_ce_obj hc)
              · omega
            · rename_i ha
              split at hcls
              · rename_i hb3
                have e20 : gm_cn 20 = "java/lang/String" := by decide +kernel
                obtain ⟨k, hk⟩ : ∃ k : Nat, @Eq Nat a (10030 + k) := ⟨a - 10030, by omega⟩
                have hk7 : k < 7 := by omega
                subst hk
                rw [gm_ad_out (30 + k) (by omega), ← f3, ← hcls, e20]
                obtain ⟨cell, y1, y2, y3⟩ := vk_recv hE.2.2.1 hk7 hS
                exact ⟨cell, y1, y2, y3⟩
              · omega
          refine gm_after rfl (va_runV (C := (gm_y j).cls) (b := gm_ad z E a) (As := ((st.take (gm_na j - 1)).reverse).map (gm_cv z E fm)) (rest := rest.map (gm_cv z E fm)) hfix hM ⟨callB_of (gm_na j - 1) hts (gm_wsj_good m3) rfl rfl rfl (hts _ (gm_in_ok m2)) (hts _ (gm_in_ok m1)) ⟨f4, f5, m4⟩ hroom, hts _ (gm_in_ok m5), hts _ (gm_in_ok m6)⟩ ⟨gm_Pc_blind, hcell, fun U hU hW => by rw [← r1]; exact hpre U hU hW⟩ rfl (by rw [List.length_map, List.length_reverse, List.length_take]; omega) hL.1.1 r2 (lv_room (by rw [gm_cat_sum hfc]; exact hsum)) hd ⟨hrc, hrs⟩) hS kk
        | _ => simp [gm_res] at hq
      · cases hs
    · cases hs
  | invokespecial j0 =>
    by_cases hj9 : j0 = 9999
    · simp only [gm_stp, if_pos hj9] at hs
      split at hs
      · split at hs <;> cases hs
      · cases hs
    · simp only [gm_stp, if_neg hj9] at hs
      split at hs
      · rename_i a tl hdr
        split at hs
        · rename_i ha
          have ha : @LT.lt Nat _ a 10000 := ha
          obtain ⟨rfl, rfl, hna, has, hrest, hsum, hcat⟩ := gm_cal_ok hs
          cases real with
          | invokespecial q =>
            simp only [gm_res, Bool.and_eq_true, beq_iff_eq, if_neg hj9] at hq
            obtain ⟨q1, rfl⟩ := hq
            subst hnx
            obtain ⟨w1, w2, w3, w4, w5, hw⟩ := gm_anyM_ok q1
            simp only [gm_mok] at hw
            rw [if_neg (by omega), if_neg (by omega)] at hw
            simp only [Bool.and_eq_true, decide_eq_true_eq] at hw
            obtain ⟨m1, m2, m3, m4, m5⟩ := hw
            rw [if_neg (by omega)] at m4
            rw [if_neg (by omega), if_neg (by omega)] at m5
            simp only [Bool.and_eq_true, decide_eq_true_eq] at m5
            obtain ⟨m5, m6, m7, m8⟩ := m5
            have hM := gm_met l (D := D) (X := X) hcat (by rw [has, List.length_reverse, List.length_take]; omega) hI
            obtain ⟨r1, r2⟩ := recv a tl m8 has hrest hdr (by omega)
            have hgood := gm_wsj_good m3
            unfold gm_wsj at hM hgood
            rw [m7] at hM hgood
            refine gm_after rfl (va_runI (b := gm_ad z E a) (As := ((st.take (gm_na j - 1)).reverse).map (gm_cv z E fm)) (rest := rest.map (gm_cv z E fm)) hfix hM ⟨callB_of (gm_na j - 1) hts hgood rfl rfl rfl (hts _ (gm_in_ok m2)) (hts _ (gm_in_ok m1)) ⟨f4, f5, m4⟩ hroom, m6, hts _ (gm_in_ok m5)⟩ ⟨gm_Pc_blind, fun U hU hW => by rw [← r1]; exact hpre U hU hW⟩ rfl (by rw [List.length_map, List.length_reverse, List.length_take]; omega) hL.1.1 r2 (lv_room (by rw [gm_cat_sum hfc]; exact hsum)) hd ⟨hrc, hrs⟩) hS kk
          | _ => simp [gm_res] at hq
        · cases hs
      · cases hs
  | iadd => simp only [gm_stp, gm_st2] at hs; (repeat' split at hs) <;> (first | exact (hgo hs).elim | cases hs)
  | isub => simp only [gm_stp, gm_st2] at hs; (repeat' split at hs) <;> (first | exact (hgo hs).elim | cases hs)
  | imul => simp only [gm_stp, gm_st2] at hs; (repeat' split at hs) <;> (first | exact (hgo hs).elim | cases hs)
  | iand => simp only [gm_stp, gm_st2] at hs; (repeat' split at hs) <;> (first | exact (hgo hs).elim | cases hs)
  | ishr => simp only [gm_stp, gm_st2] at hs; (repeat' split at hs) <;> (first | exact (hgo hs).elim | cases hs)
  | iushr => simp only [gm_stp, gm_st2] at hs; (repeat' split at hs) <;> (first | exact (hgo hs).elim | cases hs)
  | ineg => simp only [gm_stp, gm_st1] at hs; (repeat' split at hs) <;> (first | exact (hgo hs).elim | cases hs)
  | i2s => simp only [gm_stp, gm_st1] at hs; (repeat' split at hs) <;> (first | exact (hgo hs).elim | cases hs)
  | i2c => simp only [gm_stp, gm_st1] at hs; (repeat' split at hs) <;> (first | exact (hgo hs).elim | cases hs)
  | i2b => simp only [gm_stp, gm_st1] at hs; (repeat' split at hs) <;> (first | exact (hgo hs).elim | cases hs)
  | _ =>
    simp only [gm_stp] at hs
    first
      | exact (hgo hs).elim
      | (cases hs; done)
      | ((repeat' split at hs) <;> (first | exact (hgo hs).elim | cases hs))
/-- the heap only grows -/
theorem gm_stp_mono {op : Instr} {rt : Option FieldType} (hs : gm_stp X rt op nx L st h = some (.inl (pc', L', st', h'))) : h.length ≤ h'.length ∧ gm_sl h ≤ gm_sl h' := by
  cases hal : gm_al op with
  | false =>
    obtain ⟨y1, y2⟩ := gm_keep hal hs
    omega
  | true =>
    cases op with
    | new k =>
      simp only [gm_stp] at hs
      split at hs
      · rw [gm_go_keep2 hs]
        exact ⟨by simp, by rw [gm_sl_app]; omega⟩
      · cases hs
    | newarray k =>
      simp only [gm_stp] at hs
      split at hs
      · split at hs
        · cases hs
        · rw [gm_go_keep2 hs]
          exact ⟨by simp, by rw [gm_sl_app]; omega⟩
      · cases hs
    | anewarray k =>
      simp only [gm_stp] at hs
      split at hs
      · split at hs
        · cases hs
        · rw [gm_go_keep2 hs]
          exact ⟨by simp, by rw [gm_sl_app]; omega⟩
      · cases hs
    | multianewarray k1 k2 =>
      simp only [gm_stp] at hs
      split at hs
      · split at hs
        · rw [gm_go_keep2 hs]
          exact ⟨by simp, by rw [gm_sl_app, gm_sl_app]; omega⟩
        · cases hs
      · cases hs
    | _ => cases hal
theorem gm_run_grow : ∀ (n d i pc : Nat) (L st : List Value) (h : gm_H) (x : Option Value × gm_H), gm_run X n d i pc L st h = some x → h.length ≤ x.2.length ∧ gm_sl h ≤ gm_sl x.2 := by
  intro n
  induction n with
  | zero => intro d i pc L st h x hx; simp [gm_run] at hx
  | succ n ih =>
    intro d i pc L st h x hx
    unfold gm_run at hx
    cases ha : gm_at i pc with
    | none => simp [ha] at hx
    | some q =>
      obtain ⟨op, nx⟩ := q
      simp only [ha] at hx
      cases hs : gm_stp X (gm_rt i) op nx L st h with
      | none => simp [hs] at hx
      | some q =>
        simp only [hs] at hx
        match q, hx, hs with
        | .inl (pc', L', st', h'), hx, hs =>
          have y := gm_stp_mono hs
          have y2 := ih _ _ _ _ _ _ _ hx
          omega
        | .inr (.inl r), hx, _ => cases hx; exact ⟨Nat.le_refl _, Nat.le_refl _⟩
        | .inr (.inr (j, nx', as, rest)), hx, _ =>
          cases d with
          | zero => simp at hx
          | succ d =>
            simp only at hx
            cases hc : gm_run X n d j 0 (gm_ent j as) [] h with
            | none => simp [hc] at hx
            | some y =>
              obtain ⟨r, h'⟩ := y
              simp only [hc] at hx
              have y1 := ih _ _ _ _ _ _ _ hc
              have y2 := ih _ _ _ _ _ _ _ hx
              dsimp only at y1
              omega
set_option maxHeartbeats 4000000 in
theorem gm_sound : ∀ (n d i pc : Nat) (L st : List Value) (h : gm_H) (r : Option Value) (h' : gm_H), gm_run X n d i pc L st h = some (r, h') → gm_Snd D z E fm dA X d i pc L st h r h' := by
  intro n
  induction n with
  | zero => intro d i pc L st h r h' hx; simp [gm_run] at hx
  | succ n ih =>
    intro d i pc L st h r h' hx
    unfold gm_run at hx
    cases ha : gm_at i pc with
    | none => simp [ha] at hx
    | some q =>
      obtain ⟨op, nx⟩ := q
      simp only [ha] at hx
      cases hs : gm_stp X (gm_rt i) op nx L st h with
      | none => simp [hs] at hx
      | some q =>
        simp only [hs] at hx
        intro p l e R s m args below meth c Q H locs cells slots ls F hP hS hL hcz hrc hrs hret
        match q, hx, hs with
        | .inl (pc1, L1, st1, h1), hx, hs =>
          have y1 := gm_stp_mono hs
          have y2 := gm_run_grow n _ _ _ _ _ _ _ hx
          dsimp only at y2
          have ih1 := ih _ _ _ _ _ _ _ _ hx
          cases hal : gm_al op with
          | false =>
            obtain ⟨k1, k2⟩ := gm_keep hal hs
            refine gm_next F ha hal hs hP hS hL (fun H1 locs1 ls1 g1 g2 g3 => ?_)
            refine ih1 p l e R s m args below meth c Q H1 locs1 cells slots ls1 F g1 g2 g3 (by omega) (by omega) (by omega) (fun H2 locs2 ls2 pc2 g4 g5 g6 => ?_)
            rw [k1, k2]
            exact hret H2 locs2 ls2 pc2 g4 g5 g6
          | true =>
            have kk : gm_kk D z E fm dA p l e R s m args below meth c Q (gm_ml i) (cells + (h1.length - h.length)) (slots + (gm_sl h1 - gm_sl h)) pc1 L1 st1 h1 := fun H1 locs1 ls1 g1 g2 g3 => by
              refine ih1 p l e R s m args below meth c Q H1 locs1 _ _ ls1 F g1 g2 g3 (by omega) (by omega) (by omega) (fun H2 locs2 ls2 pc2 g4 g5 g6 => ?_)
              rw [show cells + (h1.length - h.length) + (h'.length - h1.length) = cells + (h'.length - h.length) by omega, show slots + (gm_sl h1 - gm_sl h) + (gm_sl h' - gm_sl h1) = slots + (gm_sl h' - gm_sl h) by omega]
              exact hret H2 locs2 ls2 pc2 g4 g5 g6
            have hrc1 : cells + (h1.length - h.length) ≤ R.cells := by omega
            have hrs1 : slots + (gm_sl h1 - gm_sl h) ≤ R.slots := by omega
            cases op with
            | new k => exact gm_o_new F ha hs hP hS hL hcz hrc1 hrs1 kk
            | newarray k => exact gm_o_newarray F ha hs hP hS hL hcz hrc1 hrs1 kk
            | anewarray k => exact gm_o_anewarray F ha hs hP hS hL hcz hrc1 hrs1 kk
            | multianewarray k1 k2 => exact gm_o_multi F ha hs hP hS hL hcz hrc1 hrs1 kk
            | _ => cases hal
        | .inr (.inl r0), hx, hs =>
          cases hx
          obtain ⟨g1, rfl, g3⟩ := gm_stp_ret (z := z) (E := E) (fm := fm) ha hs
          have y := hret H locs ls pc hP hS g1
          rw [Nat.sub_self, Nat.sub_self, Nat.add_zero, Nat.add_zero] at y
          cases r with
          | none => exact y
          | some v => exact y
        | .inr (.inr (j, nx1, as, rest)), hx, hs =>
          cases d with
          | zero => simp at hx
          | succ d =>
            simp only at hx
            cases hc : gm_run X n d j 0 (gm_ent j as) [] h with
            | none => simp [hc] at hx
            | some y =>
              obtain ⟨r1, h1⟩ := y
              simp only [hc] at hx
              have y1 := gm_run_grow n _ _ _ _ _ _ _ hc
              have y2 := gm_run_grow n _ _ _ _ _ _ _ hx
              dsimp only at y1 y2
              refine gm_call F ha hs hP hS hL hcz (h' := h1) (by omega) (by omega) (ih _ _ _ _ _ _ _ _ hc) (fun H1 locs1 g1 g2 => ?_)
              have y3 := ih _ _ _ _ _ _ _ _ hx p l e R s m args below meth c Q H1 locs1 (cells + (h1.length - h.length)) (slots + (gm_sl h1 - gm_sl h)) ls F g1 g2 hL (by omega) (by omega) (by omega) (fun H2 locs2 ls2 pc2 g4 g5 g6 => by
                rw [show cells + (h1.length - h.length) + (h'.length - h1.length) = cells + (h'.length - h.length) by omega, show slots + (gm_sl h1 - gm_sl h) + (gm_sl h' - gm_sl h1) = slots + (gm_sl h' - gm_sl h) by omega]
                exact hret H2 locs2 ls2 pc2 g4 g5 g6)
              rw [List.map_append] at y3
              cases r1 with
              | none => exact y3
              | some v => exact y3
end GM9
