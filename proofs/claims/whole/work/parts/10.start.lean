/-! THE CLAIM OUT OF ONE WALK OF THE LAW'S BODY. Your part is whole_start (and what it stands on); all else here is the same for every law, but numbers. -/
def R_law : String := "WaterButtsLaw"
def lw_P (b : Addr) (xs : List Int32) (args : Array Value) (s : State) : Prop := args = #[.ref b] ∧ s.IntsAt b xs ∧ xs.length ≤ 384 ∧ (Jvm.Cond.and given_1 narrow_1).before args s = true
def lw_Q (_ : Array Value) (s : State) (o : Outcome) (t : State) : Prop := o = .returned (some (.int 1)) ∧ Framed s o t [] 600000 7302250
def lw_Z (below : List Frame) (a : Array Value) (s : State) : State → Prop := fun t => ∃ o, t.status = .running ∧ Ended t below o ∧ lw_Q a s o t
/-- the law's own end, with 1 on the stack, nothing written that was there before, its room as the claim has it -/
theorem lw_ret {p : Program} {l : Launch} {e : Env} {s : State} {m : MethodId} {below : List Frame} {meth : Method} {c : Code} {b : Nat} (hx : p.tables.exec = Jvm.exec) (hb : c.code = code) (hr : meth.sig.returnType = ret) (hlocks : meth.locks = false) {pc : Nat} {H : Heap} {ls : Array Slot} (hdg : decode code pc = .ok (.ireturn, 1)) : W p l e room_1 s m #[Value.ref b] below meth c H [] 600000 7302250 (lw_Z below #[Value.ref b] s) (F0 m pc ls [.int 1]) := by
  intro T hT X
  obtain ⟨fs, hret, hrun, hended, hW, hframe⟩ := X.leave (v := some (.int 1)) (hlocks := hlocks) (fun h => by rw [hr] at h; cases h)
  have hmeth' : T.vm.method? m = some meth := X.method'
  refine ⟨T.setFrames fs, ?_, .returned (some (.int 1)), hrun, hended, rfl, ⟨_, rfl⟩, hW, hframe⟩
  jvm_step X.here [X.here.top, hx, hb, hdg, hmeth', hr, ret, narrow_b1]
  (try refine ⟨rfl, ?_⟩); (try refine ⟨rfl, ?_⟩)
  first | (intro acts; rw [hret _ acts rfl rfl rfl]) | rw [hret _ _ rfl rfl rfl]
  exact Steps.refl _
/-- what holds at the law's entry: the machine, the code, the tables' words (any of lw_tbl by 'hts w (by decide +kernel)'), the script of L ints xs at the cell b, what the Statement gives of the start (any of its parts by flat_of_before) -/
def lw_At (p : Program) (s : State) (m : MethodId) (meth : Method) (c : Code) (b L : Nat) (xs : Nat → Int32) : Prop :=
  p.tables.exec = Jvm.exec ∧ c.code = code ∧ meth.sig.returnType = ret ∧ c.maxLocals = 4 ∧ s.vm.findClass R_law = some m.cls ∧ (∀ w ∈ lw_tbl, w.before #[Value.ref b] s = true) ∧ va_X b L xs s s.heap ∧ b < s.heap.size ∧ meth.locks = false ∧ (Jvm.Cond.and given_1 narrow_1).before #[Value.ref b] s = true
theorem gm_eqR {args : Array Value} {s : State} {a b : Term} {x : Nat} (h : (Cond.eq a b).before args s = true) (ha : a.eval args s none [] s = some (.ref x)) : b.eval args s none [] s = some (.ref x) := by
  simp only [Cond.before, Cond.holds, Cond.value, ha] at h
  cases hb : b.eval args s none [] s with
  | none => simp [hb] at h
  | some y => cases y <;> simp [hb] at h ⊢ <;> exact h.symm
def gm_rk : List Nat := [9, 38, 44, 50, 52, 54, 56]
abbrev gm_tm (i : Nat) : Term := .string "WaterButts$Reader" (gm_rk.getD i 0)
def gm_tyt : List FieldType := [.int, .object RX1, .object RX0, .object RX4, .object RX5, .array .int, .object RJ0]
theorem gm_n1 : ∀ i, i < 7 → Cond.exactly (gm_tm i) "java/lang/String" ∈ flatC (Jvm.Cond.and given_1 narrow_1) := by decide +kernel
theorem gm_n2 : ∀ i, i < 7 → Cond.eq (.field (gm_tm i) "java/lang/String" "coder" "B") (.int 0) ∈ flatC (Jvm.Cond.and given_1 narrow_1) := by decide +kernel
theorem gm_n3 : ∀ i, i < 7 → Cond.arrayOf (.field (gm_tm i) "java/lang/String" "value" "[B") .byte ∈ flatC (Jvm.Cond.and given_1 narrow_1) := by decide +kernel
theorem gm_n4 : ∀ i, i < 7 → Cond.eq (.length (.field (gm_tm i) "java/lang/String" "value" "[B")) (.int (Int32.ofNat (gm_slen.getD i 0))) ∈ flatC (Jvm.Cond.and given_1 narrow_1) := by decide +kernel
theorem gm_n5 : ∀ i, i < 7 → ∀ j, j < gm_slen.getD i 0 → Cond.eq (.elem (.field (gm_tm i) "java/lang/String" "value" "[B") (.int (Int32.ofNat j))) (.int ((gm_sb.getD i []).getD j 0)) ∈ flatC (Jvm.Cond.and given_1 narrow_1) := by decide +kernel
theorem gm_n6 : ∀ i, i < 7 → ∀ j, j < 7 → i ≠ j → Cond.not (Cond.eq (gm_tm i) (gm_tm j)) ∈ flatC (Jvm.Cond.and given_1 narrow_1) ∨ Cond.not (Cond.eq (gm_tm j) (gm_tm i)) ∈ flatC (Jvm.Cond.and given_1 narrow_1) := by decide +kernel
theorem gm_n7 : Cond.arrayOf (.static "WaterButts" "ABOVE" "[I") .int ∈ flatC (Jvm.Cond.and given_1 narrow_1) ∧ Cond.eq (.length (.static "WaterButts" "ABOVE" "[I")) (.int 6) ∈ flatC (Jvm.Cond.and given_1 narrow_1) := by decide +kernel
theorem gm_n8 : ∀ j, j < 6 → Cond.eq (.elem (.static "WaterButts" "ABOVE" "[I") (.int (Int32.ofNat j))) (.int (gm_abv.getD j 0)) ∈ flatC (Jvm.Cond.and given_1 narrow_1) := by decide +kernel
theorem gm_n9 : Cond.eq (.static "java/lang/String" "COMPACT_STRINGS" "Z") (.int 1) ∈ flatC (Jvm.Cond.and given_1 narrow_1) ∧ Cond.isRef (.static "jdk/internal/util/Preconditions" "SIOOBE_FORMATTER" "Ljava/util/function/BiFunction;") ∈ flatC (Jvm.Cond.and given_1 narrow_1) := by decide +kernel
theorem gm_l223 : gm_by 223 = code ∧ gm_rt 223 = ret ∧ gm_ml 223 = 4 ∧ gm_mc 223 = 10 ∧ (gm_y 223).name = "law" := ⟨rfl, rfl, rfl, rfl, rfl⟩
set_option maxHeartbeats 4000000 in
/-- at the law's start everything outside is as the machine wants it -/
theorem gm_start {p : Program} {s : State} {m : MethodId} {meth : Method} {c : Code} {b L : Nat} {xs : Nat → Int32} (hL : L ≤ 384) (C0 : lw_At p s m meth c b L xs) : ∃ (D : va_G) (E : Nat → Nat) (fm : Value) (dA : Nat → ClassId), gm_Ext D s.heap.size E fm dA ((List.range L).map xs) s ∧ E 0 = b := by
  obtain ⟨hx, hb, hr, hml, hown, hts, hX, hbl, hlocks, hgv⟩ := C0
  have hs := flat_of_before _ hgv
  have hA : ∀ a : Nat, a < s.heap.size → ¬ gm_A s.heap.size a := fun a y => Nat.not_le.mpr y
  have hgw : ∀ w ∈ gm_gw, w.before #[Value.ref b] s = true := fun w hw => hts w (List.mem_filter.mp hw).1
  -- classes
  have hcls : ∀ k, ∃ q : ClassId × (Nat → Nat), k < 10 → u_Kn s (gm_cl.getD k ("", TX0, 0)).1 (gm_cl.getD k ("", TX0, 0)).2.1 (gm_cl.getD k ("", TX0, 0)).2.2 q.1 q.2 := by
    intro k
    by_cases hk : k < 10
    · obtain ⟨cC, iS, y⟩ := u_known hgw (gm_cl_in k hk) (by rw [gm_cl_cn k hk]; exact hgw _ (gm_cl_ins k hk).1)
      exact ⟨(cC, iS), fun _ => y⟩
    · exact ⟨(0, fun _ => 0), fun y => absurd y hk⟩
  obtain ⟨fD, hfD⟩ := Classical.axiomOfChoice hcls
  -- array classes
  have harr : ∀ t, ∃ cA : ClassId, t < 7 → ArrOfT s cA (gm_tyt.getD t .int) ∧ va_RA s cA (gm_tyt.getD t .int) := by
    have obj : ∀ C : String, va_AO C s → ∃ cA : ClassId, ArrOfT s cA (.object C) ∧ va_RA s cA (.object C) := by
      intro C hC
      obtain ⟨comp, c9, k9, h1, h2, h3, h4, h5⟩ := Cond.arrayOver_spec hC
      exact ⟨c9, fun n z => ⟨fun k h => (by cases h), k9, h3, comp, h4⟩, k9, comp, h3, h4, h1, h5⟩
    intro t
    match t with
    | 0 =>
      obtain ⟨c9, k9, comp, h1, h2, h3⟩ := Cond.arrayClass_spec (hgw _ gm_w_ac)
      exact ⟨c9, fun _ => ⟨fun n z => ⟨fun k h => (by cases h), k9, h2, comp, h3⟩, h1⟩⟩
    | 1 => obtain ⟨cA, y⟩ := obj RX1 (va_AO.of (hts _ (List.mem_append_right _ (List.mem_of_getElem? (i := 60) (by decide +kernel))))); exact ⟨cA, fun _ => y⟩
    | 2 => obtain ⟨cA, y⟩ := obj RX0 (va_AO.of (hts _ (List.mem_append_right _ (List.mem_of_getElem? (i := 62) (by decide +kernel))))); exact ⟨cA, fun _ => y⟩
    | 3 => obtain ⟨cA, y⟩ := obj RX4 (va_AO.of (hts _ (List.mem_append_right _ (List.mem_of_getElem? (i := 226) (by decide +kernel))))); exact ⟨cA, fun _ => y⟩
    | 4 => obtain ⟨cA, y⟩ := obj RX5 (va_AO.of (hts _ (List.mem_append_right _ (List.mem_of_getElem? (i := 228) (by decide +kernel))))); exact ⟨cA, fun _ => y⟩
    | 5 =>
      obtain ⟨comp, c9, k9, h1, h3, h4, h5⟩ := Cond.arrayOver_specA (show (Cond.arrayOver (.array .int)).before #[Value.ref b] s = true from hts _ (List.mem_append_right _ (List.mem_of_getElem? (i := 33) (by decide +kernel))))
      exact ⟨c9, fun _ => ⟨fun n z => ⟨fun k h => (by cases h), k9, h3, comp, h4⟩, h5⟩⟩
    | 6 => obtain ⟨cA, y⟩ := obj RJ0 (va_AO.of (hts _ (List.mem_append_right _ (List.mem_of_getElem? (i := 877) (by decide +kernel))))); exact ⟨cA, fun _ => y⟩
    | t + 7 => exact ⟨0, fun y => absurd y (by omega)⟩
  obtain ⟨dA, hdA⟩ := Classical.axiomOfChoice harr
  -- texts
  obtain ⟨adK, adV, hSt, hev⟩ := vk_Sof (A := gm_A s.heap.size) (N := 7) (tm := gm_tm) (len := gm_slen) (byt := gm_sb) (by decide) (fun i hi => hs _ (gm_n1 i hi)) (fun i hi => hs _ (gm_n2 i hi)) (fun i hi => hs _ (gm_n3 i hi)) (fun i hi => hs _ (gm_n4 i hi)) (fun i hi j hj => hs _ (gm_n5 i hi j hj)) (fun i j hi hj hij => (gm_n6 i hi j hj hij).imp (hs _) (hs _)) hA
  obtain ⟨tA, hvA, hTA⟩ := va_Tof (f := fun j => .int (gm_abv.getD j 0)) (A := gm_A s.heap.size) (N := 6) (by decide) (hs _ gm_n7.1) (va_eqt (hs _ gm_n7.2)) (fun j hj => va_eqt (hs _ (gm_n8 j hj))) hA
  have hZA := va_Zof (A := gm_A s.heap.size) (hts _ (List.mem_append_right _ (List.mem_of_getElem? (i := 387) (by decide +kernel)))) (hts _ (List.mem_append_right _ (List.mem_of_getElem? (i := 1) (by decide +kernel)))) hvA hA
  have hZC := va_Zof (A := gm_A s.heap.size) (hts _ (List.mem_append_right _ (List.mem_of_getElem? (i := 625) (by decide +kernel)))) (hts _ (List.mem_append_right _ (List.mem_of_getElem? (i := 13) (by decide +kernel)))) (va_eqi (hs _ gm_n9.1)) hA
  have hZF := va_Zqof (A := gm_A s.heap.size) (hts _ (List.mem_append_right _ (List.mem_of_getElem? (i := 641) (by decide +kernel)))) (hts _ (List.mem_append_right _ (List.mem_of_getElem? (i := 15) (by decide +kernel)))) (hs _ gm_n9.2) hA
  obtain ⟨fm, hfm, hfc⟩ : ∃ fm, va_Z "jdk/internal/util/Preconditions" "SIOOBE_FORMATTER" "Ljava/util/function/BiFunction;" fm (gm_A s.heap.size) s s.heap ∧ fm.category = 1 := by
    rcases hZF with y | ⟨q, y⟩
    · exact ⟨_, y, rfl⟩
    · exact ⟨_, y, rfl⟩
  obtain ⟨E, hE0, hE1, hE10, hE30⟩ : ∃ E : Nat → Nat, E 0 = b ∧ E 1 = tA ∧ (∀ k, k < 7 → E (10 + k) = adV k) ∧ (∀ k, E (30 + k) = adK k) := by
    refine ⟨fun k => if k = 0 then b else if k = 1 then tA else if k < 30 then adV (k - 10) else adK (k - 30), rfl, rfl, fun k hk => ?_, fun k => ?_⟩
    · show (if 10 + k = 0 then b else if 10 + k = 1 then tA else if 10 + k < 30 then adV (10 + k - 10) else adK (10 + k - 30)) = adV k
      rw [if_neg (by omega), if_neg (by omega), if_pos (by omega), Nat.add_sub_cancel_left]
    · show (if 30 + k = 0 then b else if 30 + k = 1 then tA else if 30 + k < 30 then adV (30 + k - 10) else adK (30 + k - 30)) = adK k
      rw [if_neg (by omega), if_neg (by omega), if_neg (by omega), Nat.add_sub_cancel_left]
  refine ⟨(fun k => (fD k).1, fun k => (fD k).2), E, fm, dA, ⟨Nat.le_refl _, ⟨?_, ?_⟩, ?_, ?_, ⟨by rw [hE1]; exact hTA, by rw [hE1]; exact hZA⟩, hZC, hfm, ⟨?_, by rw [hE0]; exact hbl, by simpa using hL⟩, ?_, ?_, ?_, ?_, hfc⟩, hE0⟩
  · intro k q hq
    have hk : k < 10 := (List.getElem?_eq_some_iff.mp hq).1
    have e1 : gm_cl.getD k ("", TX0, 0) = q := by rw [List.getD_eq_getElem?_getD, hq]; rfl
    have y := hfD k hk
    rw [e1] at y
    exact y
  · intro k q hq
    have hk : k < 7 := (List.getElem?_eq_some_iff.mp hq).1
    have e1 : ∀ t, t < 7 → (gm_tys dA)[t]? = some (dA t, gm_tyt.getD t .int) := by
      intro t ht
      match t, ht with
      | 0, _ => rfl
      | 1, _ => rfl
      | 2, _ => rfl
      | 3, _ => rfl
      | 4, _ => rfl
      | 5, _ => rfl
      | 6, _ => rfl
      | t + 7, y => exact absurd y (by omega)
    rw [e1 k hk] at hq
    cases hq
    exact hdA k hk
  · refine ⟨fun i hi => ?_, fun i j hi hj y => ?_⟩
    · have y := hSt.1 i hi
      dsimp only
      rw [hE30, hE10 i hi]
      exact y
    · dsimp only at y
      rw [hE30, hE30] at y
      exact hSt.2 i j hi hj y
  · exact List.forall_mem_cons.mpr ⟨vk_R.of (own := RX3) (k := 9) (tx := "") (hts _ (List.mem_append_right _ (List.mem_of_getElem? (i := 210) (by decide +kernel)))) (by rw [hE30]; exact hev 0 (by decide)), List.forall_mem_cons.mpr ⟨vk_R.of (own := RX3) (k := 38) (tx := "catch") (hts _ (List.mem_append_right _ (List.mem_of_getElem? (i := 607) (by decide +kernel)))) (by rw [hE30]; exact hev 1 (by decide)), List.forall_mem_cons.mpr ⟨vk_R.of (own := RX3) (k := 44) (tx := "rsh") (hts _ (List.mem_append_right _ (List.mem_of_getElem? (i := 664) (by decide +kernel)))) (by rw [hE30]; exact hev 2 (by decide)), List.forall_mem_cons.mpr ⟨vk_R.of (own := RX3) (k := 50) (tx := "dry") (hts _ (List.mem_append_right _ (List.mem_of_getElem? (i := 674) (by decide +kernel)))) (by rw [hE30]; exact hev 3 (by decide)), List.forall_mem_cons.mpr ⟨vk_R.of (own := RX3) (k := 52) (tx := "hsd") (hts _ (List.mem_append_right _ (List.mem_of_getElem? (i := 675) (by decide +kernel)))) (by rw [hE30]; exact hev 4 (by decide)), List.forall_mem_cons.mpr ⟨vk_R.of (own := RX3) (k := 54) (tx := "fine") (hts _ (List.mem_append_right _ (List.mem_of_getElem? (i := 676) (by decide +kernel)))) (by rw [hE30]; exact hev 5 (by decide)), List.forall_mem_cons.mpr ⟨vk_R.of (own := RX3) (k := 56) (tx := "bl") (hts _ (List.mem_append_right _ (List.mem_of_getElem? (i := 677) (by decide +kernel)))) (by rw [hE30]; exact hev 6 (by decide)), List.forall_mem_cons.mpr ⟨vk_R.of (own := RX9) (k := 24) (tx := "catch") (hts _ (List.mem_append_right _ (List.mem_of_getElem? (i := 878) (by decide +kernel)))) (by rw [hE30]; exact gm_eqR (hs (.eq (.string "WaterButts$Reader" 38) (.string "WaterButtsModel" 24)) (by decide +kernel)) (hev 1 (by decide))), List.forall_mem_cons.mpr ⟨vk_R.of (own := RX9) (k := 26) (tx := "dry") (hts _ (List.mem_append_right _ (List.mem_of_getElem? (i := 879) (by decide +kernel)))) (by rw [hE30]; exact gm_eqR (hs (.eq (.string "WaterButts$Reader" 50) (.string "WaterButtsModel" 26)) (by decide +kernel)) (hev 3 (by decide))), List.forall_mem_cons.mpr ⟨vk_R.of (own := RX9) (k := 28) (tx := "fine") (hts _ (List.mem_append_right _ (List.mem_of_getElem? (i := 880) (by decide +kernel)))) (by rw [hE30]; exact gm_eqR (hs (.eq (.string "WaterButts$Reader" 54) (.string "WaterButtsModel" 28)) (by decide +kernel)) (hev 5 (by decide))), List.forall_mem_cons.mpr ⟨vk_R.of (own := RX9) (k := 34) (tx := "rsh") (hts _ (List.mem_append_right _ (List.mem_of_getElem? (i := 881) (by decide +kernel)))) (by rw [hE30]; exact gm_eqR (hs (.eq (.string "WaterButts$Reader" 44) (.string "WaterButtsModel" 34)) (by decide +kernel)) (hev 2 (by decide))), List.forall_mem_cons.mpr ⟨vk_R.of (own := RX9) (k := 36) (tx := "hsd") (hts _ (List.mem_append_right _ (List.mem_of_getElem? (i := 882) (by decide +kernel)))) (by rw [hE30]; exact gm_eqR (hs (.eq (.string "WaterButts$Reader" 52) (.string "WaterButtsModel" 36)) (by decide +kernel)) (hev 4 (by decide))), List.forall_mem_cons.mpr ⟨vk_R.of (own := RX9) (k := 38) (tx := "bl") (hts _ (List.mem_append_right _ (List.mem_of_getElem? (i := 883) (by decide +kernel)))) (by rw [hE30]; exact gm_eqR (hs (.eq (.string "WaterButts$Reader" 56) (.string "WaterButtsModel" 38)) (by decide +kernel)) (hev 6 (by decide))), fun _ y => absurd y List.not_mem_nil⟩⟩⟩⟩⟩⟩⟩⟩⟩⟩⟩⟩⟩
  · rw [hE0]
    obtain ⟨scr, y1, y2, y3, y4, y5⟩ := hX
    refine ⟨scr, y1, y2, y3, by simpa using y4, fun j hj => ?_⟩
    have hj : j < L := by simpa using hj
    rw [y5 j hj]
    show _ = some (Value.int (((List.range L).map xs).getD j 0))
    rw [List.getD_eq_getElem?_getD, List.getElem?_map, List.getElem?_range hj]
    rfl
  · exact List.forall_mem_cons.mpr ⟨va_Nw.of rfl (hts _ (List.mem_append_right _ (List.mem_of_getElem? (i := 351) (by decide +kernel)))), List.forall_mem_cons.mpr ⟨va_Nw.of rfl (hts _ (List.mem_append_right _ (List.mem_of_getElem? (i := 594) (by decide +kernel)))), List.forall_mem_cons.mpr ⟨va_Nw.of rfl (hts _ (List.mem_append_right _ (List.mem_of_getElem? (i := 816) (by decide +kernel)))), List.forall_mem_cons.mpr ⟨va_Nw.of rfl (hts _ (List.mem_append_right _ (List.mem_of_getElem? (i := 606) (by decide +kernel)))), fun _ y => absurd y List.not_mem_nil⟩⟩⟩⟩
  · exact va_Nw.of rfl (hts _ (List.mem_append_right _ (List.mem_of_getElem? (i := 386) (by decide +kernel))))
  · exact List.forall_mem_cons.mpr ⟨va_AO.of (hts _ (List.mem_append_right _ (List.mem_of_getElem? (i := 60) (by decide +kernel)))), List.forall_mem_cons.mpr ⟨va_AO.of (hts _ (List.mem_append_right _ (List.mem_of_getElem? (i := 62) (by decide +kernel)))), List.forall_mem_cons.mpr ⟨va_AO.of (hts _ (List.mem_append_right _ (List.mem_of_getElem? (i := 226) (by decide +kernel)))), List.forall_mem_cons.mpr ⟨va_AO.of (hts _ (List.mem_append_right _ (List.mem_of_getElem? (i := 228) (by decide +kernel)))), List.forall_mem_cons.mpr ⟨va_AO.of (hts _ (List.mem_append_right _ (List.mem_of_getElem? (i := 877) (by decide +kernel)))), fun _ y => absurd y List.not_mem_nil⟩⟩⟩⟩⟩
  · exact (show (Cond.arrayOver (.array .int)).before #[Value.ref b] s = true from hts _ (List.mem_append_right _ (List.mem_of_getElem? (i := 33) (by decide +kernel))))
/-- what is left to say of the machine alone: on every script the law's code answers 1 -/
def gm_Law : Prop := ∀ X : List Int32, X.length ≤ 384 → ∃ (n d : Nat) (h : gm_H), d ≤ 2000 ∧ gm_run X n d 223 0 (gm_ent 223 [.ref 10000]) [] [] = some (some (.int 1), h) ∧ h.length ≤ 600000 ∧ gm_sl h ≤ 7302250
set_option maxHeartbeats 4000000 in
/-- THE LAW, from its entry, out of what the machine answers -/
theorem whole_start_open (hLaw : gm_Law) {p : Program} {e : Env} {s : State} {m : MethodId} {below : List Frame} {meth : Method} {c : Code} (l : Launch) {b L : Nat} {xs : Nat → Int32} (hL : L ≤ 384) (C0 : lw_At p s m meth c b L xs) : W p l e room_1 s m #[Value.ref b] below meth c s.heap [] 0 0 (lw_Z below #[Value.ref b] s) (entryFrame m ([Value.ref b] : List Value).toArray 4) := by
  obtain ⟨D, E, fm, dA, hE, hE0⟩ := gm_start hL C0
  obtain ⟨hx, hb, hr, hml, hown, hts, hX, hbl, hlocks, hgv⟩ := id C0
  obtain ⟨l1, l2, l3, l4, l5⟩ := gm_l223
  obtain ⟨n, d, h, hd, hrun, hc1, hc2⟩ := hLaw ((List.range L).map xs) (by simpa using hL)
  have hfc := hE.2.2.2.2.2.2.2.2.2.2.2.2
  have F : gm_Fr D s.heap.size E fm dA ((List.range L).map xs) 223 d p room_1 s m #[Value.ref b] meth c :=
    ⟨⟨hx, by rw [l1]; exact hb, by rw [l2]; exact hr, by rw [l3]; exact hml, by rw [l4]; exact hown⟩, fun w hw => hts w (List.mem_filter.mp hw).1, hlocks, fun y => by rw [l5] at y; exact absurd y (by decide), hE, by show d + 1 ≤ 2048; omega, by show 40 * d + 40 ≤ 84000; omega⟩
  have hl := lv_entry ([.ref b]) (n := 4) (Nat.le_of_ble_eq_true rfl)
  rw [lg_entry_eq]
  generalize (lg_sl ([.ref b]) ++ List.replicate (4 - (lg_sl ([.ref b])).length) Slot.unset).toArray = ls at hl ⊢
  have hP : va_P D gm_cl (gm_ws s.heap.size E fm dA []) s.heap := fun k q y => by simp [gm_ws] at y
  have hcv : gm_cv s.heap.size E fm (.ref 10000) = .ref b := by rw [gm_cv_ref (by omega), gm_ad_out 0 rfl, hE0]
  have hLR : gm_LR s.heap.size E fm ls (gm_ml 223) (gm_ent 223 [.ref 10000]) := gm_ent_LR rfl (by rw [l3]; decide) (by rw [l3, List.map_cons, hcv]; exact hl) hfc
  refine gm_sound n d 223 0 _ [] [] (some (.int 1)) h hrun p l e room_1 s m #[Value.ref b] below meth c _ s.heap [] 0 0 ls F hP va_S.rf hLR rfl ?_ ?_ (fun H1 locs1 ls1 pc1 g1 g2 g3 => ?_)
  · show 0 + (h.length - 0) ≤ 600000
    omega
  · show 0 + (gm_sl h - 0) ≤ 7302250
    omega
  · rcases g3 with ⟨v, ty, y1, hdd, -, -⟩ | ⟨y1, -, -⟩
    · cases y1
      refine va_forget (fun q hq => g2.2.2 q hq) ?_
      refine W.widen (k := 600000) (n := 7302250) (by show 0 + (h.length - 0) ≤ 600000; omega) (by show 0 + (gm_sl h - 0) ≤ 7302250; omega) ?_
      rw [l1] at hdd
      exact lw_ret hx hb hr hlocks hdd
    · cases y1
