-- printed by TURN with the names: the outer row of new T[n][m]
theorem vr_outer (c : ClassId) (N h0 : Nat) : ∀ i : Nat, Jvm.Free.Multi.outerC c N h0 i = arrV c N (fun j => va_rf (if j < i then some (h0 + 1 + j) else none))
  | 0 => by
    show ({ cls := c, slots := Array.replicate N .null, vm := .none } : Cell) = _
    rw [arrV_new]
    refine congrArg (arrV c N) (funext fun j => ?_)
    simp [va_rf]
  | i + 1 => by
    show (Jvm.Free.Multi.outerC c N h0 i).setSlot i (.ref (h0 + 1 + i)) = _
    rw [vr_outer c N h0 i, arrV_store]
    refine congrArg (arrV c N) (funext fun j => ?_)
    by_cases e : j = i
    · subst e
      simp [updV, va_rf]
    · by_cases h : j < i
      · simp [updV, e, h, Nat.lt_succ_of_lt h]
      · simp [updV, e, h, show ¬ j < i + 1 by omega]
section GM6c
variable {z : Nat} {E : Nat → Nat} {fm : Value} {dA : Nat → ClassId} {D : va_G} {X : List Int32}
variable {p : Program} {l : Launch} {e : Env} {R : Room} {s : State} {m : MethodId} {args : Array Value} {below : List Frame} {meth : Method} {c : Code} {Q : State → Prop} {H : Heap} {locs : List Loc} {cells slots : Nat} {ls : Array Slot} {i d pc pc' nx : Nat} {L st L' st' : List Value} {h h' : gm_H}

theorem gm_Wsize {g : JFrame} (k : H.size ≤ s.heap.size + cells → W p l e R s m args below meth c H locs cells slots Q g) : W p l e R s m args below meth c H locs cells slots Q g := by
  intro T hT X
  refine k ?_ T hT X
  have h1 := X.same.2.2.1
  rw [← hT]
  exact h1
/-- a new cell lies right behind the others -/
theorem gm_place {q : Nat} {ev : va_E} {H1 : Heap} (hP1 : va_P D gm_cl (gm_ws z E fm dA h ++ [(q, ev)]) H1) (hD1 : va_D (gm_A z) (gm_ws z E fm dA h ++ [(q, ev)])) (hsz : H1.size ≤ z + h.length + 1) : q = z + h.length := by
  have hlen : (gm_ws z E fm dA h).length = h.length := gm_ws_len h
  have hq : (gm_ws z E fm dA h ++ [(q, ev)])[h.length]? = some (q, ev) := by rw [List.getElem?_append_right (by omega), hlen, Nat.sub_self]; rfl
  have h1 := (hP1 _ _ hq).lt
  have h2 : z ≤ q := hD1.2 _ _ hq
  have h3 : ∀ k, k < h.length → q ≠ z + k := by
    intro k hk y
    obtain ⟨ek, hek⟩ : ∃ ek, h[k]? = some ek := ⟨_, List.getElem?_eq_getElem hk⟩
    have hg : (gm_ws z E fm dA h ++ [(q, ev)])[k]? = some (z + k, gm_ce z E fm dA ek) := by rw [List.getElem?_append_left (by omega)]; exact gm_ws_get hek
    have := hD1.1 _ _ _ _ hq hg y
    omega
  have h1 : q < H1.size := h1
  have h4 := h3 (q - z)
  omega
theorem gm_new_cv (k : Nat) : (gm_new k).map (gm_cv z E fm) = gm_new k := by
  conv => rhs; rw [← List.map_id (gm_new k)]
  apply List.map_congr_left
  intro v hv
  unfold gm_new at hv
  obtain ⟨j, -, rfl⟩ := List.mem_map.mp hv
  unfold gm_df
  split <;> rfl
theorem gm_new_ok : ∀ k, k < 10 → ∀ j, j < (gm_cl.getD k ("", TX0, 0)).2.2 → defaultValue ((gm_tyl.getD k (fun _ => .int)) j) = vp_V (gm_new k) j := by decide +kernel
theorem gm_new_len (k : Nat) : (gm_new k).length = (gm_cl.getD k ("", TX0, 0)).2.2 := by simp [gm_new]
theorem gm_pC_t : gm_pC.all (fun e => decide (e.2.2.1 < 100) || !decide (gm_tc (e.2.2.1 - 100) = 99)) = true := by decide +kernel
theorem gm_anyC_t {oc idx t : Nat} (q : gm_anyC oc idx (100 + t) = true) : ¬ gm_tc t = 99 := by
  obtain ⟨⟨a, b, g, k⟩, he, hq⟩ := List.any_eq_true.mp q
  simp only [Bool.and_eq_true, beq_iff_eq] at hq
  obtain ⟨rfl, rfl, rfl⟩ := hq
  have h1 := List.all_eq_true.mp gm_pC_t _ he
  simp only [Bool.or_eq_true, decide_eq_true_eq, Bool.not_eq_true', decide_eq_false_iff_not] at h1
  rcases h1 with h1 | h1
  · omega
  · rw [Nat.add_sub_cancel_left] at h1; exact h1
theorem gm_sl_one (e : gm_E) : gm_sl (h ++ [e]) - gm_sl h = gm_sz e := by
  rw [gm_sl_app]
  simp [gm_sl]
theorem gm_len_one (e : gm_E) : (h ++ [e]).length - h.length = 1 := by simp
set_option maxHeartbeats 4000000 in
theorem gm_o_new {k : Nat} (F : gm_Fr D z E fm dA X i d p R s m args meth c) (hat : gm_at i pc = some (.new k, nx)) (hs : gm_stp X (gm_rt i) (.new k) nx L st h = some (.inl (pc', L', st', h'))) (hP : va_P D gm_cl (gm_ws z E fm dA h) H) (hS : va_S (gm_A z) s.heap H locs) (hL : gm_LR z E fm ls (gm_ml i) L) (hcz : s.heap.size + cells = z + h.length) (hrc : cells + (h'.length - h.length) ≤ R.cells) (hrs : slots + (gm_sl h' - gm_sl h) ≤ R.slots)
    (kk : gm_kk D z E fm dA p l e R s m args below meth c Q (gm_ml i) (cells + (h'.length - h.length)) (slots + (gm_sl h' - gm_sl h)) pc' L' st' h') : W p l e R s m args below meth c H locs cells slots Q (F0 m pc ls (st.map (gm_cv z E fm))) := by
  obtain ⟨⟨hx, hb, hr, hml, hown⟩, hts, hlk, hnm, hE, hfr, hlo⟩ := F
  obtain ⟨real, len, hnx, hd, hq⟩ := gm_at_ok hat
  have hA : ∀ q : Nat, s.heap.size ≤ q → gm_A z q := fun q y => Nat.le_trans hE.1 y
  simp only [gm_stp] at hs
  split at hs
  · rename_i hk
    obtain ⟨hk10, hl9⟩ := hk
    simp only [gm_go, Option.some.injEq, Sum.inl.injEq, Prod.mk.injEq] at hs
    obtain ⟨rfl, rfl, rfl, rfl⟩ := hs
    subst hnx
    cases real with
    | new n =>
      simp only [gm_res, Bool.and_eq_true, beq_iff_eq, decide_eq_true_eq] at hq
      obtain ⟨q1, rfl, -⟩ := hq
      have hw := gm_anyC_ok q1
      rw [if_pos (by omega)] at hw
      rw [gm_len_one, gm_sl_one] at kk
      rw [gm_len_one] at hrc
      rw [gm_sl_one] at hrs
      have hsz : gm_sz (.inr (k, gm_new k)) = (gm_cl.getD k ("", TX0, 0)).2.2 := gm_new_len k
      rw [hsz] at kk hrs
      have hcl : gm_cl[k]? = some (gm_cl.getD k ("", TX0, 0)) := by
        rw [List.getD_eq_getElem?_getD, List.getElem?_eq_getElem (show k < gm_cl.length from hk10)]
        rfl
      refine va_new hx hb hts (gm_cl_in k hk10) (gm_tyl.getD k (fun _ => .int)) (gm_cl_ty k hk10) hown (by rw [gm_cl_cn k hk10]; exact hts _ hw) (by rw [gm_cl_cn k hk10]; exact hts _ (gm_cl_ins k hk10).1) (by rw [gm_cl_cn k hk10]; exact hts _ (gm_cl_ins k hk10).2) hE.2.1 hP (gm_ws_D h) hS hA hcl (gm_new_ok k hk10) hrc hrs hd (fun q H1 g1 g2 g3 => ?_)
      refine gm_Wsize (fun g4 => ?_)
      have hqe := gm_place g1 g2 (by omega)
      subst hqe
      have k3 := kk H1 locs ls (by rw [gm_ws_app]; show va_P D gm_cl (gm_ws z E fm dA h ++ [(z + h.length, .inr (k, (gm_new k).map (gm_cv z E fm)))]) H1; rw [gm_new_cv]; exact g1) g3 hL
      rw [List.map_cons, gm_cv_ref (by omega), gm_ad_in (by omega)] at k3
      exact k3
    | _ => simp [gm_res] at hq
  · cases hs
set_option maxHeartbeats 4000000 in
theorem gm_o_newarray {k : ArrayType} (F : gm_Fr D z E fm dA X i d p R s m args meth c) (hat : gm_at i pc = some (.newarray k, nx)) (hs : gm_stp X (gm_rt i) (.newarray k) nx L st h = some (.inl (pc', L', st', h'))) (hP : va_P D gm_cl (gm_ws z E fm dA h) H) (hS : va_S (gm_A z) s.heap H locs) (hL : gm_LR z E fm ls (gm_ml i) L) (hcz : s.heap.size + cells = z + h.length) (hrc : cells + (h'.length - h.length) ≤ R.cells) (hrs : slots + (gm_sl h' - gm_sl h) ≤ R.slots)
    (kk : gm_kk D z E fm dA p l e R s m args below meth c Q (gm_ml i) (cells + (h'.length - h.length)) (slots + (gm_sl h' - gm_sl h)) pc' L' st' h') : W p l e R s m args below meth c H locs cells slots Q (F0 m pc ls (st.map (gm_cv z E fm))) := by
  obtain ⟨⟨hx, hb, hr, hml, hown⟩, hts, hlk, hnm, hE, hfr, hlo⟩ := F
  obtain ⟨real, len, hnx, hd, hq⟩ := gm_at_ok hat
  have hA : ∀ q : Nat, s.heap.size ≤ q → gm_A z q := fun q y => Nat.le_trans hE.1 y
  simp only [gm_stp] at hs
  split at hs
  · rename_i n st0
    split at hs
    · cases hs
    · rename_i hk
      simp only [gm_go, Option.some.injEq, Sum.inl.injEq, Prod.mk.injEq] at hs
      obtain ⟨rfl, rfl, rfl, rfl⟩ := hs
      subst hnx
      cases real with
      | newarray t =>
        simp only [gm_res, Bool.and_eq_true, beq_iff_eq, decide_eq_true_eq] at hq
        obtain ⟨rfl, rfl⟩ := hq
        rw [gm_len_one, gm_sl_one] at kk
        rw [gm_len_one] at hrc
        rw [gm_sl_one] at hrs
        have hsz : gm_sz (.inl (0, .inl (List.replicate n.toNatClampNeg 0))) = n.toNatClampNeg := List.length_replicate
        rw [hsz] at kk hrs
        have hn0 : ¬ n < 0 := fun y => hk (Or.inl y)
        have hn1 : n.toNatClampNeg ≤ 2000 := by
          have y : ¬ 2000 < n := fun y => hk (Or.inr (Or.inl y))
          obtain ⟨j, hj, rfl⟩ := nI_of2 (M := 2000) (n := 2000) (by decide) hn0 (Int32.not_lt.mp y)
          rw [nI_clamp (by omega)]
          exact hj
        have hz0 : ∀ j, (List.replicate n.toNatClampNeg (0 : Int32)).getD j 0 = 0 := fun j => by
          rw [List.getD_eq_getElem?_getD, List.getElem?_replicate]
          split <;> rfl
        refine va_newa (atype := .int) (ty := .int) (N' := n.toNatClampNeg) (a0 := ((List.replicate n.toNatClampNeg (0 : Int32)).length, .inl (fun j => (List.replicate n.toNatClampNeg (0 : Int32)).getD j 0))) hx hb (hts _ gm_w_ac) rfl hE.2.1 hP (gm_ws_D h) hS hA (fun cA => ?_) hn0 rfl (by show n.toNatClampNeg * 4 ≤ _; omega) hrc hrs hd (fun q cA H1 g0 g1 g2 g3 => ?_)
        · rw [vp_cell_i, List.length_replicate]
          congr 1
          funext j
          rw [hz0]
          rfl
        · refine gm_Wsize (fun g4 => ?_)
          have hcA : cA = dA 0 := by
            have y1 : s.vm.findClass ("[" ++ FieldType.int.toString) = some cA := (g0.2 7 (cA, .int) rfl).2
            have y2 : s.vm.findClass ("[" ++ FieldType.int.toString) = some (dA 0) := (hE.2.1.2 0 (dA 0, .int) rfl).2
            exact Option.some.inj (y1.symm.trans y2)
          subst hcA
          have hqe := gm_place g1 g2 (by omega)
          subst hqe
          have k3 := kk H1 locs ls (by rw [gm_ws_app]; exact g1) g3 hL
          rw [List.map_cons, gm_cv_ref (by omega), gm_ad_in (by omega)] at k3
          exact k3
      | _ => simp [gm_res] at hq
  · cases hs
set_option maxHeartbeats 4000000 in
theorem gm_o_anewarray {k : Nat} (F : gm_Fr D z E fm dA X i d p R s m args meth c) (hat : gm_at i pc = some (.anewarray k, nx)) (hs : gm_stp X (gm_rt i) (.anewarray k) nx L st h = some (.inl (pc', L', st', h'))) (hP : va_P D gm_cl (gm_ws z E fm dA h) H) (hS : va_S (gm_A z) s.heap H locs) (hL : gm_LR z E fm ls (gm_ml i) L) (hcz : s.heap.size + cells = z + h.length) (hrc : cells + (h'.length - h.length) ≤ R.cells) (hrs : slots + (gm_sl h' - gm_sl h) ≤ R.slots)
    (kk : gm_kk D z E fm dA p l e R s m args below meth c Q (gm_ml i) (cells + (h'.length - h.length)) (slots + (gm_sl h' - gm_sl h)) pc' L' st' h') : W p l e R s m args below meth c H locs cells slots Q (F0 m pc ls (st.map (gm_cv z E fm))) := by
  obtain ⟨⟨hx, hb, hr, hml, hown⟩, hts, hlk, hnm, hE, hfr, hlo⟩ := F
  obtain ⟨real, len, hnx, hd, hq⟩ := gm_at_ok hat
  have hA : ∀ q : Nat, s.heap.size ≤ q → gm_A z q := fun q y => Nat.le_trans hE.1 y
  simp only [gm_stp] at hs
  split at hs
  · rename_i n st0
    split at hs
    · cases hs
    · rename_i hk
      simp only [gm_go, Option.some.injEq, Sum.inl.injEq, Prod.mk.injEq] at hs
      obtain ⟨rfl, rfl, rfl, rfl⟩ := hs
      subst hnx
      cases real with
      | anewarray t =>
        simp only [gm_res, Bool.and_eq_true, beq_iff_eq] at hq
        obtain ⟨q1, rfl⟩ := hq
        have hw := gm_anyC_ok q1
        rw [if_neg (by omega), Nat.add_sub_cancel_left] at hw
        obtain ⟨hty, hao, -⟩ := gm_tys_obj (dA := dA) (gm_anyC_t q1)
        rw [gm_len_one, gm_sl_one] at kk
        rw [gm_len_one] at hrc
        rw [gm_sl_one] at hrs
        have hsz : gm_sz (.inl (k, .inr (List.replicate n.toNatClampNeg none))) = n.toNatClampNeg := List.length_replicate
        rw [hsz] at kk hrs
        have hn0 : ¬ n < 0 := fun y => hk (Or.inl y)
        have hn1 : n.toNatClampNeg ≤ 2000 := by
          have y : ¬ 2000 < n := fun y => hk (Or.inr (Or.inl y))
          obtain ⟨j, hj, rfl⟩ := nI_of2 (M := 2000) (n := 2000) (by decide) hn0 (Int32.not_lt.mp y)
          rw [nI_clamp (by omega)]
          exact hj
        have hz0 : (fun j => ((List.replicate n.toNatClampNeg (none : Option Nat)).getD j none).map (gm_ad z E)) = (fun _ => none) := by
          funext j
          rw [List.getD_eq_getElem?_getD, List.getElem?_replicate]
          split <;> rfl
        refine va_newq (C := gm_cn (gm_tc k)) (N' := n.toNatClampNeg) hx hb hown (hts _ hw) (hE.2.2.2.2.2.2.2.2.2.2.1 _ hao) hE.2.1 hP (gm_ws_D h) hS hA hn0 rfl (by omega) hrc hrs hd (fun q cA H1 g0 g1 g2 g3 => ?_)
        refine gm_Wsize (fun g4 => ?_)
        have hcA : cA = dA k := by
          obtain ⟨_, _, _, _, _, y1⟩ := (g0.2 7 (cA, .object (gm_cn (gm_tc k))) rfl).2
          obtain ⟨_, _, _, _, _, y2⟩ := (hE.2.1.2 k _ hty).2
          exact Option.some.inj (y1.symm.trans y2)
        subst hcA
        have hqe := gm_place g1 g2 (by omega)
        subst hqe
        have k3 := kk H1 locs ls (by
          rw [gm_ws_app]
          show va_P D gm_cl (gm_ws z E fm dA h ++ [(z + h.length, .inl (dA k, (List.replicate n.toNatClampNeg (none : Option Nat)).length, .inr (.inr (.inr (.inr (fun j => ((List.replicate n.toNatClampNeg (none : Option Nat)).getD j none).map (gm_ad z E)))))))]) H1
          rw [hz0, List.length_replicate]
          exact g1) g3 hL
        rw [List.map_cons, gm_cv_ref (by omega), gm_ad_in (by omega)] at k3
        exact k3
      | _ => simp [gm_res] at hq
  · cases hs
def gm_mrow (n : Nat) : List (Option Nat) := (List.range 15).map (fun i => some (n + 1 + i))
theorem gm_sl_rep : gm_sl (List.replicate 15 (.inl (0, .inl (List.replicate 96 0)))) = 1440 := by decide
theorem gm_mrow_get (n : Nat) (hn : n < 9000) (j : Nat) : ((gm_mrow n).getD j none).map (gm_ad z E) = if j < 15 then some (z + n + 1 + j) else none := by
  unfold gm_mrow
  rw [List.getD_eq_getElem?_getD, List.getElem?_map]
  by_cases hj : j < 15
  · rw [List.getElem?_range hj, if_pos hj]
    show some (gm_ad z E (n + 1 + j)) = _
    rw [gm_ad_in (by omega)]
    congr 1
    omega
  · rw [List.getElem?_eq_none (by simpa using hj), if_neg hj]
    rfl
set_option maxHeartbeats 4000000 in
theorem gm_o_multi {k1 k2 : Nat} (F : gm_Fr D z E fm dA X i d p R s m args meth c) (hat : gm_at i pc = some (.multianewarray k1 k2, nx)) (hs : gm_stp X (gm_rt i) (.multianewarray k1 k2) nx L st h = some (.inl (pc', L', st', h'))) (hP : va_P D gm_cl (gm_ws z E fm dA h) H) (hS : va_S (gm_A z) s.heap H locs) (hL : gm_LR z E fm ls (gm_ml i) L) (hcz : s.heap.size + cells = z + h.length) (hrc : cells + (h'.length - h.length) ≤ R.cells) (hrs : slots + (gm_sl h' - gm_sl h) ≤ R.slots)
    (kk : gm_kk D z E fm dA p l e R s m args below meth c Q (gm_ml i) (cells + (h'.length - h.length)) (slots + (gm_sl h' - gm_sl h)) pc' L' st' h') : W p l e R s m args below meth c H locs cells slots Q (F0 m pc ls (st.map (gm_cv z E fm))) := by
  obtain ⟨⟨hx, hb, hr, hml, hown⟩, hts, hlk, hnm, hE, hfr, hlo⟩ := F
  obtain ⟨real, len, hnx, hd, hq⟩ := gm_at_ok hat
  have hA : ∀ q : Nat, s.heap.size ≤ q → gm_A z q := fun q y => Nat.le_trans hE.1 y
  simp only [gm_stp] at hs
  split at hs
  · rename_i nk nn st0
    split at hs
    · rename_i hk
      obtain ⟨rfl, rfl, hl9⟩ := hk
      simp only [gm_go, Option.some.injEq, Sum.inl.injEq, Prod.mk.injEq] at hs
      obtain ⟨rfl, rfl, rfl, rfl⟩ := hs
      subst hnx
      cases real with
      | multianewarray q n =>
        simp only [gm_res, Bool.and_eq_true, beq_iff_eq] at hq
        obtain ⟨rfl, rfl, o1, rfl⟩ := hq
        rw [o1] at hown
        have el : (h ++ [.inl (5, .inr (gm_mrow h.length))] ++ List.replicate 15 (.inl (0, .inl (List.replicate 96 0))) : gm_H).length - h.length = 16 := by simp
        have es : gm_sl (h ++ [.inl (5, .inr (gm_mrow h.length))] ++ List.replicate 15 (.inl (0, .inl (List.replicate 96 0)))) - gm_sl h = 1455 := by
          rw [gm_sl_app, gm_sl_app, gm_sl_rep]
          have : gm_sl [(.inl (5, .inr (gm_mrow h.length)) : gm_E)] = 15 := by simp [gm_sl, gm_sz, gm_mrow]
          omega
        have kk2 : gm_kk D z E fm dA p l e R s m args below meth c Q (gm_ml i) (cells + 16) (slots + 1455) (pc + 4) L (.ref h.length :: st0) (h ++ [.inl (5, .inr (gm_mrow h.length))] ++ List.replicate 15 (.inl (0, .inl (List.replicate 96 0)))) := by
          have y := kk
          rw [show (h ++ [.inl (5, .inr ((List.range 15).map (fun i => some (h.length + 1 + i))))] ++ List.replicate 15 (.inl (0, .inl (List.replicate 96 0))) : gm_H) = h ++ [.inl (5, .inr (gm_mrow h.length))] ++ List.replicate 15 (.inl (0, .inl (List.replicate 96 0))) from rfl, el, es] at y
          exact y
        have hrc2 : cells + 16 ≤ R.cells := by
          have y := hrc
          rw [show (h ++ [.inl (5, .inr ((List.range 15).map (fun i => some (h.length + 1 + i))))] ++ List.replicate 15 (.inl (0, .inl (List.replicate 96 0))) : gm_H) = h ++ [.inl (5, .inr (gm_mrow h.length))] ++ List.replicate 15 (.inl (0, .inl (List.replicate 96 0))) from rfl, el] at y
          exact y
        have hrs2 : slots + 1455 ≤ R.slots := by
          have y := hrs
          rw [show (h ++ [.inl (5, .inr ((List.range 15).map (fun i => some (h.length + 1 + i))))] ++ List.replicate 15 (.inl (0, .inl (List.replicate 96 0))) : gm_H) = h ++ [.inl (5, .inr (gm_mrow h.length))] ++ List.replicate 15 (.inl (0, .inl (List.replicate 96 0))) from rfl, es] at y
          exact y
        clear kk hrc hrs
        have hlow : z + h.length ≤ H.size := by
          cases hh : h.length with
          | zero => have := hS.1; have := hE.1; omega
          | succ k =>
            obtain ⟨ek, hek⟩ : ∃ ek, h[k]? = some ek := ⟨_, List.getElem?_eq_getElem (by omega)⟩
            have := (hP k _ (gm_ws_get hek)).lt
            have : z + k < H.size := this
            omega
        refine gm_Wsize (fun g4 => ?_)
        have hH : H.size = z + h.length := by omega
        intro T hT Xs
        obtain ⟨vm₁, cA, comp, -, fA, fC, -, -, X', step⟩ := Xs.multianewarray2F (ty := .int) hx hown (hts _ gm_w_mn) hE.2.2.2.2.2.2.2.2.2.2.2.1 (hts _ gm_w_ac) (g := F0 m pc ls ((.int 96 :: .int 15 :: st0).map (gm_cv z E fm))) rfl (by rw [hb]; exact hd) (n := 15) (k := 96) (rest := st0.map (gm_cv z E fm)) rfl (by decide) (by decide) (by decide) (by decide) (by decide) rfl rfl (by show cells + (1 + 15) ≤ _; omega) (by show slots + (15 + 15 * 96) ≤ _; omega)
        have hcA : cA = dA 5 := Option.some.inj (fA.symm.trans (show s.vm.findClass ("[" ++ (FieldType.array .int).toString) = some (dA 5) from (hE.2.1.2 5 (dA 5, .array .int) rfl).2))
        have hcm : comp = dA 0 := Option.some.inj (fC.symm.trans (show s.vm.findClass ("[" ++ FieldType.int.toString) = some (dA 0) from (hE.2.1.2 0 (dA 0, .int) rfl).2))
        subst hcA
        subst hcm
        change Stand p l e R s m args below meth c (Jvm.Free.Multi.fill (T.setVm vm₁) (dA 5) (dA 0) 15 96 (.int 0) 15) locs (cells + 1 + 15) (slots + 15 + 15 * 96) at X'
        change ∀ target, Steps p.tables e below ((Jvm.Free.Multi.fill (T.setVm vm₁) (dA 5) (dA 0) 15 96 (.int 0) 15).setTop _) target → _ at step
        have hTh : (T.setVm vm₁).heap = H := hT
        obtain ⟨f1, f2, -, -⟩ := Jvm.Free.Multi.fill_facts (T.setVm vm₁) (dA 5) (dA 0) 15 96 (.int 0) 15
        have hold : ∀ x : Nat, x < H.size → (Jvm.Free.Multi.fill (T.setVm vm₁) (dA 5) (dA 0) 15 96 (.int 0) 15).heap[x]? = H[x]? := fun x hx => by
          have := Jvm.Free.Multi.fill_old (T.setVm vm₁) (dA 5) (dA 0) 15 96 (.int 0) (a := x) (by rw [hTh]; exact hx) 15
          rw [hTh] at this
          exact this
        have hrow : ∀ j : Nat, j < 15 → (Jvm.Free.Multi.fill (T.setVm vm₁) (dA 5) (dA 0) 15 96 (.int 0) 15).heap[H.size + 1 + j]? = some (Jvm.Free.Multi.innerC (dA 0) 96 (.int 0)) := fun j hj => by
          have := Jvm.Free.Multi.fill_inner (T.setVm vm₁) (dA 5) (dA 0) 15 96 (.int 0) 15 j hj
          rw [hTh] at this
          exact this
        rw [hTh] at f1 f2
        generalize Jvm.Free.Multi.fill (T.setVm vm₁) (dA 5) (dA 0) 15 96 (.int 0) 15 = FT at *
        have hP2 : va_P D gm_cl (gm_ws z E fm dA (h ++ [.inl (5, .inr (gm_mrow h.length))] ++ List.replicate 15 (.inl (0, .inl (List.replicate 96 0))))) FT.heap := by
          intro k q hkq
          unfold gm_ws at hkq
          rw [List.getElem?_mapIdx] at hkq
          by_cases k1 : k < h.length
          · rw [List.append_assoc, List.getElem?_append_left k1] at hkq
            have y := hP k q (by unfold gm_ws; rw [List.getElem?_mapIdx]; exact hkq)
            exact y.kept (hold _ y.lt)
          · by_cases k2 : k = h.length
            · subst k2
              rw [List.append_assoc, List.getElem?_append_right (by omega), Nat.sub_self] at hkq
              cases hkq
              show FT.heap[z + h.length]? = some (vp_cell (dA 5) ((gm_mrow h.length).length, .inr (.inr (.inr (.inr (fun j => ((gm_mrow h.length).getD j none).map (gm_ad z E)))))))
              rw [← hH, f2, vr_outer, vp_cell_q]
              have e15 : (gm_mrow h.length).length = 15 := by simp [gm_mrow]
              rw [e15]
              congr 2
              funext j
              rw [gm_mrow_get _ hl9, hH]
            · by_cases k3 : k < h.length + 16
              · rw [List.getElem?_append_right (by simp; omega)] at hkq
                rw [List.getElem?_replicate, if_pos (by simp; omega)] at hkq
                cases hkq
                show FT.heap[z + k]? = some (vp_cell (dA 0) ((List.replicate 96 (0 : Int32)).length, .inl (fun j => (List.replicate 96 (0 : Int32)).getD j 0)))
                have y := hrow (k - h.length - 1) (by omega)
                rw [hH, show z + h.length + 1 + (k - h.length - 1) = z + k by omega] at y
                rw [y, vp_cell_i]
                refine congrArg some ?_
                show ({ cls := dA 0, slots := Array.replicate 96 (.int 0), vm := .none } : Cell) = arrV (dA 0) (List.replicate 96 (0 : Int32)).length _
                rw [arrV_new, List.length_replicate]
                congr 1
                funext j
                rw [List.getD_eq_getElem?_getD, List.getElem?_replicate]
                split <;> rfl
              · rw [List.getElem?_eq_none (by simp; omega)] at hkq
                cases hkq
        have k3 := kk2 FT.heap locs ls hP2 ⟨by rw [f1]; have := hS.1; omega, fun x y1 y2 => (hold x (Nat.lt_of_lt_of_le y1 hS.1)).trans (hS.2.1 x y1 y2), hS.2.2⟩ hL
        rw [List.map_cons, gm_cv_ref (by omega), gm_ad_in (by omega)] at k3
        obtain ⟨t, a1, b1⟩ := k3 FT rfl X'
        refine ⟨t, step t ?_, b1⟩
        rw [hT, hH]
        exact a1
      | _ => simp [gm_res] at hq
    · cases hs
  · cases hs
end GM6c
