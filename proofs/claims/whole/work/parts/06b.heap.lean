section GM6b
variable {z : Nat} {E : Nat → Nat} {fm : Value} {dA : Nat → ClassId} {D : va_G} {X : List Int32}
variable {p : Program} {l : Launch} {e : Env} {R : Room} {s : State} {m : MethodId} {args : Array Value} {below : List Frame} {meth : Method} {c : Code} {Q : State → Prop} {H : Heap} {locs : List Loc} {cells slots : Nat} {ls : Array Slot} {i d pc pc' nx : Nat} {L st L' st' : List Value} {h h' : gm_H}

theorem gm_ce_obj {a c0 : Nat} {fs : List Value} (hc : h[a]? = some (.inr (c0, fs))) : (gm_ws z E fm dA h)[a]? = some (z + a, .inr (c0, fs.map (gm_cv z E fm))) := gm_ws_get hc
theorem gm_ce_arr {a t : Nat} {xs : List Int32} (hc : h[a]? = some (.inl (t, .inl xs))) : (gm_ws z E fm dA h)[a]? = some (z + a, .inl (dA t, xs.length, .inl (fun j => xs.getD j 0))) := gm_ws_get hc
theorem gm_ce_row {a t : Nat} {rs : List (Option Nat)} (hc : h[a]? = some (.inl (t, .inr rs))) : (gm_ws z E fm dA h)[a]? = some (z + a, .inl (dA t, rs.length, .inr (.inr (.inr (.inr (fun j => (rs.getD j none).map (gm_ad z E))))))) := gm_ws_get hc
/-- an object of the machine: its class is one of the ten -/
theorem gm_obj {a c0 : Nat} {fs : List Value} (hP : va_P D gm_cl (gm_ws z E fm dA h) H) (hc : h[a]? = some (.inr (c0, fs))) : c0 < 10 ∧ gm_cl[c0]? = some (gm_cl.getD c0 ("", TX0, 0)) := by
  obtain ⟨r, hr, -⟩ := hP a _ (gm_ce_obj hc)
  have hl := (List.getElem?_eq_some_iff.mp hr).1
  refine ⟨hl, ?_⟩
  rw [List.getD_eq_getElem?_getD, hr]
  rfl
theorem gm_fld_in {f : Nat} (hf : f / 100 < 10) : gm_fld f = (((gm_cl.getD (f / 100) ("", TX0, 0)).2.1 (f % 100)).1, ((gm_cl.getD (f / 100) ("", TX0, 0)).2.1 (f % 100)).2.1, ((gm_cl.getD (f / 100) ("", TX0, 0)).2.1 (f % 100)).2.2.1) := by
  unfold gm_fld
  rw [if_neg (by omega), if_neg (by omega)]
theorem gm_fo_ok {f : Nat} {v : Value} (hv : gm_fo f v = true) : narrow ((gm_tyl.getD (f / 100) (fun _ => .int)) (f % 100)) (gm_cv z E fm v) = gm_cv z E fm v ∧ fits ((gm_tyl.getD (f / 100) (fun _ => .int)) (f % 100)) (gm_cv z E fm v) = true := by
  unfold gm_fo gm_kf at hv
  generalize (gm_tyl.getD (f / 100) (fun _ => .int)) (f % 100) = ty at hv ⊢
  cases v with
  | int x =>
    cases ty <;> simp at hv <;> first
      | exact ⟨rfl, rfl⟩
      | (rcases hv with rfl | rfl <;> exact ⟨rfl, rfl⟩)
  | ref a =>
    cases ty <;> simp at hv <;> (rw [gm_cv_ref hv]; exact ⟨rfl, rfl⟩)
  | _ => simp at hv
set_option maxHeartbeats 4000000 in
theorem gm_o_getfield {f : Nat} (F : gm_Fr D z E fm dA X i d p R s m args meth c) (hat : gm_at i pc = some (.getfield f, nx)) (hs : gm_stp X (gm_rt i) (.getfield f) nx L st h = some (.inl (pc', L', st', h'))) (hP : va_P D gm_cl (gm_ws z E fm dA h) H) (hS : va_S (gm_A z) s.heap H locs) (hL : gm_LR z E fm ls (gm_ml i) L)
    (kk : gm_kk D z E fm dA p l e R s m args below meth c Q (gm_ml i) cells slots pc' L' st' h') : W p l e R s m args below meth c H locs cells slots Q (F0 m pc ls (st.map (gm_cv z E fm))) := by
  obtain ⟨⟨hx, hb, hr, hml, hown⟩, hts, hlk, hnm, hE, hfr, hlo⟩ := F
  obtain ⟨real, len, hnx, hd, hq⟩ := gm_at_ok hat
  simp only [gm_stp] at hs
  split at hs
  · rename_i a st0
    split at hs
    · rename_i v hgf
      simp only [gm_go, Option.some.injEq, Sum.inl.injEq, Prod.mk.injEq] at hs
      obtain ⟨rfl, rfl, rfl, rfl⟩ := hs
      subst hnx
      cases real with
      | getfield n =>
        simp only [gm_res, Bool.and_eq_true, beq_iff_eq] at hq
        obtain ⟨q1, rfl⟩ := hq
        obtain ⟨hw, hf⟩ := gm_anyF_ok q1
        have k3 := kk H locs ls hP hS hL
        unfold gm_gf at hgf
        split at hgf
        · rename_i ha
          split at hgf
          · rename_i c0 fs hcell
            split at hgf
            · rename_i hcf
              obtain ⟨hc10, hcl⟩ := gm_obj hP hcell
              have hf10 : f / 100 < 10 := by omega
              rw [gm_fld_in hf10, ← hcf] at hw
              have hfN : f % 100 < (gm_cl.getD c0 ("", TX0, 0)).2.2 := by
                rcases hf with y | y | ⟨_, y⟩
                · omega
                · omega
                · rw [hcf]; exact y
              rw [List.map_cons, gm_cv_ref (by omega), gm_ad_in ha]
              exact va_get hx hb hts (gm_cl_in c0 hc10) hown hE.2.1 hP a (gm_ce_obj hcell) hcl (f % 100) hfN (hts _ hw) (fun _ y => y) (by rw [List.getElem?_map, hgf]; rfl) hd k3
            · cases hgf
          · cases hgf
        · rename_i ha
          have hSt := hE.2.2.1
          split at hgf
          · rename_i hc
            obtain ⟨rfl, h1, h2⟩ := hc
            cases hgf
            rw [List.map_cons, gm_cv_ref (by omega), gm_ad_out (10 + (a - 10030)) (by omega)] at k3
            rw [List.map_cons, gm_cv_ref (by omega), gm_ad_out (30 + (a - 10030)) (by omega)]
            exact vk_getf hx hb ((hSt.1 (a - 10030) (by omega)).2.2.1) hS hown (hts _ hw) (fun _ y => y) hd k3
          · split at hgf
            · rename_i hc
              obtain ⟨rfl, h1, h2⟩ := hc
              cases hgf
              rw [List.map_cons, gm_cv_ref (by omega), gm_ad_out (30 + (a - 10030)) (by omega)]
              exact vk_getf hx hb ((hSt.1 (a - 10030) (by omega)).2.1) hS hown (hts _ hw) (fun _ y => y) hd k3
            · cases hgf
      | _ => simp [gm_res] at hq
    · cases hs
  · cases hs
set_option maxHeartbeats 4000000 in
theorem gm_o_putfield {f : Nat} (F : gm_Fr D z E fm dA X i d p R s m args meth c) (hat : gm_at i pc = some (.putfield f, nx)) (hs : gm_stp X (gm_rt i) (.putfield f) nx L st h = some (.inl (pc', L', st', h'))) (hP : va_P D gm_cl (gm_ws z E fm dA h) H) (hS : va_S (gm_A z) s.heap H locs) (hL : gm_LR z E fm ls (gm_ml i) L)
    (kk : gm_kk D z E fm dA p l e R s m args below meth c Q (gm_ml i) cells slots pc' L' st' h') : W p l e R s m args below meth c H locs cells slots Q (F0 m pc ls (st.map (gm_cv z E fm))) := by
  obtain ⟨⟨hx, hb, hr, hml, hown⟩, hts, hlk, hnm, hE, hfr, hlo⟩ := F
  obtain ⟨real, len, hnx, hd, hq⟩ := gm_at_ok hat
  simp only [gm_stp] at hs
  split at hs
  · rename_i v a st0
    split at hs
    · rename_i h2 hpf
      simp only [gm_go, Option.some.injEq, Sum.inl.injEq, Prod.mk.injEq] at hs
      obtain ⟨rfl, rfl, rfl, rfl⟩ := hs
      subst hnx
      cases real with
      | putfield n =>
        simp only [gm_res, Bool.and_eq_true, beq_iff_eq, decide_eq_true_eq, Bool.not_eq_true'] at hq
        obtain ⟨q1, rfl, q3, q4⟩ := hq
        obtain ⟨hw, hf⟩ := gm_anyF_ok q1
        unfold gm_pf at hpf
        split at hpf
        · rename_i ha
          obtain ⟨ha, hv⟩ := ha
          split at hpf
          · rename_i c0 fs hcell
            split at hpf
            · rename_i hcf
              obtain ⟨hcf, hlt⟩ := hcf
              cases hpf
              obtain ⟨hc10, hcl⟩ := gm_obj hP hcell
              rw [gm_fld_in q3, ← hcf] at hw
              have hfN : f % 100 < (gm_cl.getD c0 ("", TX0, 0)).2.2 := by
                rcases hf with y | y | ⟨_, y⟩
                · omega
                · omega
                · rw [hcf]; exact y
              have hfin := q4
              rw [← hcf] at hfin
              obtain ⟨hnar, hfit⟩ := gm_fo_ok (z := z) (E := E) (fm := fm) hv
              rw [← hcf] at hnar hfit
              rw [List.map_cons, List.map_cons, gm_cv_ref (a := a) (by omega), gm_ad_in ha]
              refine va_put hx hb hts (gm_cl_in c0 hc10) (gm_tyl.getD c0 (fun _ => .int)) (gm_cl_ty c0 hc10) (gm_cl_nm c0 hc10) hown hE.2.1 hP (gm_ws_D h) hS a (gm_ce_obj hcell) hcl (f % 100) hfN (hts _ hw) (fun _ y => y) hfin (gm_cl_ty c0 hc10 _ hfN) hnar hfit (by rw [List.length_map]; exact hlt) hd (fun H1 locs1 g1 _ g3 => ?_)
              refine kk H1 locs1 ls ?_ g3 hL
              rw [← gm_ws_set]
              show va_P D gm_cl ((gm_ws z E fm dA h).set a (z + a, .inr (c0, (fs.set (f % 100) v).map (gm_cv z E fm)))) H1
              rw [List.map_set]
              exact g1
            · cases hpf
          · cases hpf
        · cases hpf
      | _ => simp [gm_res] at hq
    · cases hs
  · cases hs
set_option maxHeartbeats 4000000 in
theorem gm_o_putstatic {f : Nat} (F : gm_Fr D z E fm dA X i d p R s m args meth c) (hat : gm_at i pc = some (.putstatic f, nx)) (hs : gm_stp X (gm_rt i) (.putstatic f) nx L st h = some (.inl (pc', L', st', h'))) (hP : va_P D gm_cl (gm_ws z E fm dA h) H) (hS : va_S (gm_A z) s.heap H locs) (hL : gm_LR z E fm ls (gm_ml i) L)
    (kk : gm_kk D z E fm dA p l e R s m args below meth c Q (gm_ml i) cells slots pc' L' st' h') : W p l e R s m args below meth c H locs cells slots Q (F0 m pc ls (st.map (gm_cv z E fm))) := by
  obtain ⟨⟨hx, hb, hr, hml, hown⟩, hts, hlk, hnm, hE, hfr, hlo⟩ := F
  obtain ⟨real, len, hnx, hd, hq⟩ := gm_at_ok hat
  simp only [gm_stp] at hs
  split at hs
  · rename_i v a st0
    split at hs
    · rename_i h2 hpf
      simp only [gm_go, Option.some.injEq, Sum.inl.injEq, Prod.mk.injEq] at hs
      obtain ⟨rfl, rfl, rfl, rfl⟩ := hs
      subst hnx
      cases real with
      | putfield n =>
        simp only [gm_res, Bool.and_eq_true, beq_iff_eq, decide_eq_true_eq, Bool.not_eq_true'] at hq
        obtain ⟨q1, rfl, q3, q4, q5, q6⟩ := hq
        obtain ⟨hw, hf⟩ := gm_anyF_ok q1
        unfold gm_pf at hpf
        split at hpf
        · rename_i ha
          obtain ⟨ha, hv⟩ := ha
          split at hpf
          · rename_i c0 fs hcell
            split at hpf
            · rename_i hcf
              obtain ⟨hcf, hlt⟩ := hcf
              cases hpf
              obtain ⟨hc10, hcl⟩ := gm_obj hP hcell
              rw [gm_fld_in q3, ← hcf] at hw
              have hfN : f % 100 < (gm_cl.getD c0 ("", TX0, 0)).2.2 := by
                rcases hf with y | y | ⟨_, y⟩
                · omega
                · omega
                · rw [hcf]; exact y
              have hfin := q4
              rw [← hcf] at hfin
              obtain ⟨hnar, hfit⟩ := gm_fo_ok (z := z) (E := E) (fm := fm) hv
              rw [← hcf] at hnar hfit
              rw [List.map_cons, List.map_cons, gm_cv_ref (a := a) (by omega), gm_ad_in ha]
              refine va_putF hx hb hts (gm_cl_in c0 hc10) (gm_tyl.getD c0 (fun _ => .int)) (gm_cl_ty c0 hc10) (gm_cl_nm c0 hc10) hown hE.2.1 hP (gm_ws_D h) hS a (gm_ce_obj hcell) hcl (f % 100) hfN (hts _ hw) (fun _ y => y) hfin (hnm q5) (by rw [gm_cl_dc c0 hc10 _ hfN, hcf, q6]) (gm_cl_ty c0 hc10 _ hfN) hnar hfit (by rw [List.length_map]; exact hlt) hd (fun H1 locs1 g1 _ g3 => ?_)
              refine kk H1 locs1 ls ?_ g3 hL
              rw [← gm_ws_set]
              show va_P D gm_cl ((gm_ws z E fm dA h).set a (z + a, .inr (c0, (fs.set (f % 100) v).map (gm_cv z E fm)))) H1
              rw [List.map_set]
              exact g1
            · cases hpf
          · cases hpf
        · cases hpf
      | _ => simp [gm_res] at hq
    · cases hs
  · cases hs
set_option maxHeartbeats 4000000 in
theorem gm_o_getstatic {k : Nat} (F : gm_Fr D z E fm dA X i d p R s m args meth c) (hat : gm_at i pc = some (.getstatic k, nx)) (hs : gm_stp X (gm_rt i) (.getstatic k) nx L st h = some (.inl (pc', L', st', h'))) (hP : va_P D gm_cl (gm_ws z E fm dA h) H) (hS : va_S (gm_A z) s.heap H locs) (hL : gm_LR z E fm ls (gm_ml i) L)
    (kk : gm_kk D z E fm dA p l e R s m args below meth c Q (gm_ml i) cells slots pc' L' st' h') : W p l e R s m args below meth c H locs cells slots Q (F0 m pc ls (st.map (gm_cv z E fm))) := by
  obtain ⟨⟨hx, hb, hr, hml, hown⟩, hts, hlk, hnm, hE, hfr, hlo⟩ := F
  obtain ⟨real, len, hnx, hd, hq⟩ := gm_at_ok hat
  simp only [gm_stp] at hs
  cases real with
  | getstatic n =>
    simp only [gm_res, Bool.and_eq_true, Bool.or_eq_true, beq_iff_eq] at hq
    obtain ⟨hq, rfl⟩ := hq
    subst hnx
    obtain ⟨-, -, -, -, ⟨-, e5⟩, e6, e7, -, -, e10, -⟩ := hE
    rcases hq with ⟨rfl, o1, rfl⟩ | ⟨rfl, o1, rfl⟩ | ⟨rfl, o1, rfl⟩
    · rw [if_pos rfl] at hs
      simp only [gm_go, Option.some.injEq, Sum.inl.injEq, Prod.mk.injEq] at hs
      obtain ⟨rfl, rfl, rfl, rfl⟩ := hs
      have k3 := kk H locs ls hP hS hL
      rw [List.map_cons, gm_cv_ref (by omega), gm_ad_out 1 rfl] at k3
      rw [o1] at hown
      exact va_getsN hx hb e5 hS hown (va_Nw.use rfl e10) (fun _ y => y) hd k3
    · rw [if_neg (by omega), if_pos rfl] at hs
      simp only [gm_go, Option.some.injEq, Sum.inl.injEq, Prod.mk.injEq] at hs
      obtain ⟨rfl, rfl, rfl, rfl⟩ := hs
      rw [o1] at hown
      exact va_gets hx hb e6 hS hown (hts _ gm_w_st.1) (fun _ y => y) hd (kk H locs ls hP hS hL)
    · rw [if_neg (by omega), if_neg (by omega), if_pos rfl] at hs
      simp only [gm_go, Option.some.injEq, Sum.inl.injEq, Prod.mk.injEq] at hs
      obtain ⟨rfl, rfl, rfl, rfl⟩ := hs
      rw [o1] at hown
      exact va_gets hx hb e7 hS hown (hts _ gm_w_st.2) (fun _ y => y) hd (kk H locs ls hP hS hL)
  | _ => simp [gm_res] at hq
theorem gm_ix_ok {xs : List Int32} {j v : Int32} (q : gm_ix xs j = some v) : vp_in j xs.length ∧ v = xs.getD j.toNatClampNeg 0 := by
  unfold gm_ix at q
  split at q
  · cases q
  · rename_i hn
    cases q
    exact ⟨hn, rfl⟩
set_option maxHeartbeats 4000000 in
theorem gm_o_iaload  (F : gm_Fr D z E fm dA X i d p R s m args meth c) (hat : gm_at i pc = some (.iaload, nx)) (hs : gm_stp X (gm_rt i) (.iaload) nx L st h = some (.inl (pc', L', st', h'))) (hP : va_P D gm_cl (gm_ws z E fm dA h) H) (hS : va_S (gm_A z) s.heap H locs) (hL : gm_LR z E fm ls (gm_ml i) L)
    (kk : gm_kk D z E fm dA p l e R s m args below meth c Q (gm_ml i) cells slots pc' L' st' h') : W p l e R s m args below meth c H locs cells slots Q (F0 m pc ls (st.map (gm_cv z E fm))) := by
  obtain ⟨⟨hx, hb, hr, hml, hown⟩, hts, hlk, hnm, hE, hfr, hlo⟩ := F
  obtain ⟨real, len, hnx, hd, hq⟩ := gm_at_ok hat
  simp only [gm_res, gm_pl, Bool.and_eq_true, decide_eq_true_eq, beq_iff_eq] at hq
  obtain ⟨rfl, rfl⟩ := hq
  subst hnx
  simp only [gm_stp] at hs
  split at hs
  · rename_i j a st0
    split at hs
    · rename_i v hgf
      simp only [gm_go, Option.some.injEq, Sum.inl.injEq, Prod.mk.injEq] at hs
      obtain ⟨rfl, rfl, rfl, rfl⟩ := hs
      have k3 := kk H locs ls hP hS hL
      unfold gm_ial at hgf
      split at hgf
      · rename_i ha
        split at hgf
        · rename_i t xs hcell
          split at hgf
          · rename_i ht
            subst ht
            obtain ⟨hin, rfl⟩ := gm_ix_ok hgf
            rw [List.map_cons, List.map_cons, gm_cv_ref (a := a) (by omega), gm_ad_in ha]
            exact va_iald hx hb hE.2.1 hP a 0 (gm_ce_arr hcell) rfl hin hd k3
          · cases hgf
        · cases hgf
      · rename_i ha
        split at hgf
        · rename_i ha2
          subst ha2
          obtain ⟨hin, rfl⟩ := gm_ix_ok hgf
          rw [List.map_cons, List.map_cons, gm_cv_ref (a := 10000) (by omega), gm_ad_out 0 rfl]
          obtain ⟨e8, e9, -⟩ := hE.2.2.2.2.2.2.2.1
          exact va_sld hx hb e8 (Nat.lt_of_lt_of_le e9 hE.1) (Nat.not_le.mpr e9) hS hin hd k3
        · split at hgf
          · rename_i ha2
            subst ha2
            obtain ⟨hin, hv⟩ := gm_ix_ok hgf
            rw [hv] at k3
            rw [List.map_cons, List.map_cons, gm_cv_ref (a := 10001) (by omega), gm_ad_out 1 rfl]
            exact va_ti hx hb hE.2.2.2.2.1.1 hS hin rfl hd k3
          · cases hgf
    · cases hs
  · cases hs
set_option maxHeartbeats 4000000 in
theorem gm_o_baload  (F : gm_Fr D z E fm dA X i d p R s m args meth c) (hat : gm_at i pc = some (.baload, nx)) (hs : gm_stp X (gm_rt i) (.baload) nx L st h = some (.inl (pc', L', st', h'))) (hP : va_P D gm_cl (gm_ws z E fm dA h) H) (hS : va_S (gm_A z) s.heap H locs) (hL : gm_LR z E fm ls (gm_ml i) L)
    (kk : gm_kk D z E fm dA p l e R s m args below meth c Q (gm_ml i) cells slots pc' L' st' h') : W p l e R s m args below meth c H locs cells slots Q (F0 m pc ls (st.map (gm_cv z E fm))) := by
  obtain ⟨⟨hx, hb, hr, hml, hown⟩, hts, hlk, hnm, hE, hfr, hlo⟩ := F
  obtain ⟨real, len, hnx, hd, hq⟩ := gm_at_ok hat
  simp only [gm_res, gm_pl, Bool.and_eq_true, decide_eq_true_eq, beq_iff_eq] at hq
  obtain ⟨rfl, rfl⟩ := hq
  subst hnx
  simp only [gm_stp] at hs
  split at hs
  · rename_i j a st0
    split at hs
    · rename_i v hgf
      simp only [gm_go, Option.some.injEq, Sum.inl.injEq, Prod.mk.injEq] at hs
      obtain ⟨rfl, rfl, rfl, rfl⟩ := hs
      have k3 := kk H locs ls hP hS hL
      unfold gm_bal at hgf
      split at hgf
      · rename_i ha
        obtain ⟨h1, h2⟩ := ha
        obtain ⟨hin, hv⟩ := gm_ix_ok hgf
        rw [hv] at k3
        rw [List.map_cons, List.map_cons, gm_cv_ref (a := a) (by omega), gm_ad_out (10 + (a - 10010)) (by omega)]
        have hT := (hE.2.2.1.1 (a - 10010) (by omega)).2.2.2
        have hlen : ∀ k, k < 7 → gm_slen.getD k 0 = (gm_sb.getD k []).length := by decide
        rw [hlen _ (by omega)] at hT
        exact va_tb hx hb hT hS hin rfl hd k3
      · cases hgf
    · cases hs
  · cases hs
set_option maxHeartbeats 4000000 in
theorem gm_o_arraylength  (F : gm_Fr D z E fm dA X i d p R s m args meth c) (hat : gm_at i pc = some (.arraylength, nx)) (hs : gm_stp X (gm_rt i) (.arraylength) nx L st h = some (.inl (pc', L', st', h'))) (hP : va_P D gm_cl (gm_ws z E fm dA h) H) (hS : va_S (gm_A z) s.heap H locs) (hL : gm_LR z E fm ls (gm_ml i) L)
    (kk : gm_kk D z E fm dA p l e R s m args below meth c Q (gm_ml i) cells slots pc' L' st' h') : W p l e R s m args below meth c H locs cells slots Q (F0 m pc ls (st.map (gm_cv z E fm))) := by
  obtain ⟨⟨hx, hb, hr, hml, hown⟩, hts, hlk, hnm, hE, hfr, hlo⟩ := F
  obtain ⟨real, len, hnx, hd, hq⟩ := gm_at_ok hat
  simp only [gm_res, gm_pl, Bool.and_eq_true, decide_eq_true_eq, beq_iff_eq] at hq
  obtain ⟨rfl, rfl⟩ := hq
  subst hnx
  simp only [gm_stp] at hs
  split at hs
  · rename_i a st0
    split at hs
    · rename_i n hgf
      simp only [gm_go, Option.some.injEq, Sum.inl.injEq, Prod.mk.injEq] at hs
      obtain ⟨rfl, rfl, rfl, rfl⟩ := hs
      have k3 := kk H locs ls hP hS hL
      unfold gm_len at hgf
      split at hgf
      · rename_i ha
        rw [List.map_cons, gm_cv_ref (a := a) (by omega), gm_ad_in ha]
        split at hgf
        · rename_i t xs hcell
          split at hgf
          · rename_i ht
            subst ht
            cases hgf
            exact va_alen hx hb hE.2.1 hP a 0 (gm_ce_arr hcell) (ty := .int) rfl rfl hd k3
          · cases hgf
        · rename_i t rs hcell
          split at hgf
          · rename_i ht
            cases hgf
            obtain ⟨ty, hty⟩ : ∃ ty, (gm_tys dA)[t]? = some (dA t, ty) := by
              match t, ht with
              | 0, _ => exact ⟨_, rfl⟩
              | 1, _ => exact ⟨_, rfl⟩
              | 2, _ => exact ⟨_, rfl⟩
              | 3, _ => exact ⟨_, rfl⟩
              | 4, _ => exact ⟨_, rfl⟩
              | 5, _ => exact ⟨_, rfl⟩
              | 6, _ => exact ⟨_, rfl⟩
              | k + 7, y => exact absurd y (by omega)
            exact va_alen hx hb hE.2.1 hP a t (gm_ce_row hcell) hty rfl hd k3
          · cases hgf
        · cases hgf
      · rename_i ha
        split at hgf
        · rename_i ha2
          subst ha2
          cases hgf
          rw [List.map_cons, gm_cv_ref (a := 10000) (by omega), gm_ad_out 0 rfl]
          obtain ⟨e8, e9, -⟩ := hE.2.2.2.2.2.2.2.1
          exact va_slen hx hb e8 (Nat.lt_of_lt_of_le e9 hE.1) (Nat.not_le.mpr e9) hS hd k3
        · split at hgf
          · rename_i ha2
            subst ha2
            have hn := Option.some.inj hgf
            rw [← hn] at k3
            rw [List.map_cons, gm_cv_ref (a := 10001) (by omega), gm_ad_out 1 rfl]
            exact va_tlen hx hb hE.2.2.2.2.1.1 hS rfl hd k3
          · split at hgf
            · rename_i ha3
              obtain ⟨h1, h2⟩ := ha3
              have hn := Option.some.inj hgf
              rw [← hn] at k3
              rw [List.map_cons, gm_cv_ref (a := a) (by omega), gm_ad_out (10 + (a - 10010)) (by omega)]
              have hT := (hE.2.2.1.1 (a - 10010) (by omega)).2.2.2
              have hlen : ∀ k, k < 7 → gm_slen.getD k 0 = (gm_sb.getD k []).length := by decide
              rw [hlen _ (by omega)] at hT
              exact va_tlen hx hb hT hS rfl hd k3
            · cases hgf
    · cases hs
  · cases hs
set_option maxHeartbeats 4000000 in
theorem gm_o_iastore  (F : gm_Fr D z E fm dA X i d p R s m args meth c) (hat : gm_at i pc = some (.iastore, nx)) (hs : gm_stp X (gm_rt i) (.iastore) nx L st h = some (.inl (pc', L', st', h'))) (hP : va_P D gm_cl (gm_ws z E fm dA h) H) (hS : va_S (gm_A z) s.heap H locs) (hL : gm_LR z E fm ls (gm_ml i) L)
    (kk : gm_kk D z E fm dA p l e R s m args below meth c Q (gm_ml i) cells slots pc' L' st' h') : W p l e R s m args below meth c H locs cells slots Q (F0 m pc ls (st.map (gm_cv z E fm))) := by
  obtain ⟨⟨hx, hb, hr, hml, hown⟩, hts, hlk, hnm, hE, hfr, hlo⟩ := F
  obtain ⟨real, len, hnx, hd, hq⟩ := gm_at_ok hat
  simp only [gm_res, gm_pl, Bool.and_eq_true, decide_eq_true_eq, beq_iff_eq] at hq
  obtain ⟨rfl, rfl⟩ := hq
  subst hnx
  simp only [gm_stp] at hs
  split at hs
  · rename_i v j a st0
    split at hs
    · rename_i h2 hpf
      simp only [gm_go, Option.some.injEq, Sum.inl.injEq, Prod.mk.injEq] at hs
      obtain ⟨rfl, rfl, rfl, rfl⟩ := hs
      unfold gm_ias at hpf
      split at hpf
      · rename_i ha
        split at hpf
        · rename_i t xs hcell
          split at hpf
          · rename_i ht
            obtain ⟨rfl, hin⟩ := ht
            cases hpf
            rw [List.map_cons, List.map_cons, List.map_cons, gm_cv_ref (a := a) (by omega), gm_ad_in ha]
            refine va_iast hx hb hE.2.1 hP (gm_ws_D h) hS a 0 (gm_ce_arr hcell) rfl hin hd (fun H1 locs1 g1 _ g3 => ?_)
            refine kk H1 locs1 ls ?_ g3 hL
            rw [← gm_ws_set]
            have e1 : gm_ce z E fm dA (.inl (0, .inl (xs.set j.toNatClampNeg v))) = .inl (dA 0, xs.length, .inl (upd (fun j => xs.getD j 0) j.toNatClampNeg v)) := by
              show (.inl (dA 0, (xs.set j.toNatClampNeg v).length, .inl (fun k => (xs.set j.toNatClampNeg v).getD k 0)) : va_E) = _
              rw [List.length_set]
              congr 3
              congr 1
              funext k
              have hlt : j.toNatClampNeg < xs.length := Nat.not_le.mp fun y => hin (Or.inr y)
              by_cases hk : k = j.toNatClampNeg
              · subst hk
                rw [pk_us, List.getD_eq_getElem?_getD, List.getElem?_set_self hlt]
                rfl
              · rw [pk_un hk, List.getD_eq_getElem?_getD, List.getElem?_set_ne (Ne.symm hk), ← List.getD_eq_getElem?_getD]
            rw [e1]
            exact g1
          · cases hpf
        · cases hpf
      · cases hpf
    · cases hs
  · cases hs
theorem gm_rv_cv (r : Option Nat) (hr : ∀ a, r = some a → ¬ a = 10050) : gm_cv z E fm (gm_rv r) = va_rf (r.map (gm_ad z E)) := by
  cases r with
  | none => rfl
  | some a => exact gm_cv_ref (hr a rfl)
theorem gm_cv_cat2 (hf : fm.category = 1) (v : Value) : (gm_cv z E fm v).category = v.category := by
  cases v with
  | ref a =>
    show (if a = 10050 then fm else Value.ref (gm_ad z E a)).category = 1
    split
    · exact hf
    · rfl
  | _ => rfl
theorem gm_cat_sum (hf : fm.category = 1) (st : List Value) : ((st.map (gm_cv z E fm)).map fun v => v.category).sum = (st.map fun v => v.category).sum := by
  rw [List.map_map]
  congr 1
  apply List.map_congr_left
  intro v _
  exact gm_cv_cat2 hf v
theorem gm_cpy_ok (xs ys : List Int32) (sp dp n : Nat) (hl : dp + n ≤ ys.length) : (gm_cpy xs ys sp dp n).length = ys.length ∧ (fun k => (gm_cpy xs ys sp dp n).getD k 0) = va_cpy (fun k => xs.getD k 0) (fun k => ys.getD k 0) sp dp n := by
  refine ⟨by simp [gm_cpy], ?_⟩
  funext k
  unfold gm_cpy va_cpy
  rw [List.getD_eq_getElem?_getD, List.getElem?_map]
  by_cases hk : k < ys.length
  · rw [List.getElem?_range hk]
    rfl
  · rw [List.getElem?_eq_none (by simpa using hk), if_neg (by omega)]
    show (0 : Int32) = ys.getD k 0
    rw [List.getD_eq_getElem?_getD, List.getElem?_eq_none (by simpa using hk)]
    rfl
theorem gm_tys_at {t : Nat} (h1 : ¬ t = 0) (h2 : t < 7) : ∃ ty, (gm_tys dA)[t]? = some (dA t, ty) ∧ ty.isReference = true := by
  match t, h1, h2 with
  | 1, _, _ => exact ⟨_, rfl, rfl⟩
  | 2, _, _ => exact ⟨_, rfl, rfl⟩
  | 3, _, _ => exact ⟨_, rfl, rfl⟩
  | 4, _, _ => exact ⟨_, rfl, rfl⟩
  | 5, _, _ => exact ⟨_, rfl, rfl⟩
  | 6, _, _ => exact ⟨_, rfl, rfl⟩
  | k + 7, _, y => exact absurd y (by omega)
theorem gm_tys_obj {t : Nat} (h1 : ¬ gm_tc t = 99) : (gm_tys dA)[t]? = some (dA t, .object (gm_cn (gm_tc t))) ∧ gm_cn (gm_tc t) ∈ gm_aoc ∧ ((gm_tc t < 10) ∨ gm_tc t = 20) := by
  match t, h1 with
  | 0, y => exact absurd rfl y
  | 1, _ => exact ⟨rfl, by decide, by decide⟩
  | 2, _ => exact ⟨rfl, by decide, by decide⟩
  | 3, _ => exact ⟨rfl, by decide, by decide⟩
  | 4, _ => exact ⟨rfl, by decide, by decide⟩
  | 5, y => exact absurd rfl y
  | 6, _ => exact ⟨rfl, by decide, by decide⟩
  | k + 7, y => exact absurd rfl y
theorem gm_cls_99 (a : Nat) (hP : va_P D gm_cl (gm_ws z E fm dA h) H) : ¬ gm_cls h a = 99 := by
  unfold gm_cls
  split
  · split
    · rename_i c0 fs hc
      have := (gm_obj hP hc).1
      omega
    · omega
  · split <;> omega
set_option maxHeartbeats 4000000 in
theorem gm_o_aaload  (F : gm_Fr D z E fm dA X i d p R s m args meth c) (hat : gm_at i pc = some (.aaload, nx)) (hs : gm_stp X (gm_rt i) (.aaload) nx L st h = some (.inl (pc', L', st', h'))) (hP : va_P D gm_cl (gm_ws z E fm dA h) H) (hS : va_S (gm_A z) s.heap H locs) (hL : gm_LR z E fm ls (gm_ml i) L)
    (kk : gm_kk D z E fm dA p l e R s m args below meth c Q (gm_ml i) cells slots pc' L' st' h') : W p l e R s m args below meth c H locs cells slots Q (F0 m pc ls (st.map (gm_cv z E fm))) := by
  obtain ⟨⟨hx, hb, hr, hml, hown⟩, hts, hlk, hnm, hE, hfr, hlo⟩ := F
  obtain ⟨real, len, hnx, hd, hq⟩ := gm_at_ok hat
  simp only [gm_res, gm_pl, Bool.and_eq_true, decide_eq_true_eq, beq_iff_eq] at hq
  obtain ⟨rfl, rfl⟩ := hq
  subst hnx
  simp only [gm_stp] at hs
  split at hs
  · rename_i j a st0
    split at hs
    · rename_i v hgf
      simp only [gm_go, Option.some.injEq, Sum.inl.injEq, Prod.mk.injEq] at hs
      obtain ⟨rfl, rfl, rfl, rfl⟩ := hs
      have k3 := kk H locs ls hP hS hL
      unfold gm_aal at hgf
      split at hgf
      · rename_i ha
        split at hgf
        · rename_i t rs hcell
          split at hgf
          · cases hgf
          · rename_i hn
            cases hgf
            have hin : vp_in j rs.length := fun y => hn (Or.inl y)
            have hlt : j.toNatClampNeg < rs.length := Nat.not_le.mp fun q => hin (Or.inr q)
            obtain ⟨ty, hty, href⟩ := gm_tys_at (dA := dA) (fun y => hn (Or.inr (Or.inl y))) (Nat.not_le.mp fun y => hn (Or.inr (Or.inr (Or.inl y))))
            have hg := gm_ce_row (z := z) (E := E) (fm := fm) (dA := dA) hcell
            rw [List.map_cons, List.map_cons, gm_cv_ref (a := a) (by omega), gm_ad_in ha]
            rw [List.map_cons] at k3
            rw [gm_rv_cv _ (fun x hx2 hx3 => hn (Or.inr (Or.inr (Or.inr (by rw [hx2, hx3])))))] at k3
            exact W.aald (v := va_rf ((rs.getD j.toNatClampNeg none).map (gm_ad z E))) (ty := ty) hx hb (hP a _ hg) ((hE.2.1.2 t _ hty).1 rs.length (fun q => va_rf ((rs.getD q none).map (gm_ad z E)))) href (fun q => by cases q) (by show ¬ (j < 0 ∨ (arrV _ _ _).slots.size ≤ _); rw [arrV_size]; exact hin) (by show (arrV _ _ _).slots[_]? = _; rw [arrV_read _ _ hlt]) rfl rfl hd k3
        · cases hgf
      · cases hgf
    · cases hs
  · cases hs
set_option maxHeartbeats 4000000 in
theorem gm_o_aastore  (F : gm_Fr D z E fm dA X i d p R s m args meth c) (hat : gm_at i pc = some (.aastore, nx)) (hs : gm_stp X (gm_rt i) (.aastore) nx L st h = some (.inl (pc', L', st', h'))) (hP : va_P D gm_cl (gm_ws z E fm dA h) H) (hS : va_S (gm_A z) s.heap H locs) (hL : gm_LR z E fm ls (gm_ml i) L)
    (kk : gm_kk D z E fm dA p l e R s m args below meth c Q (gm_ml i) cells slots pc' L' st' h') : W p l e R s m args below meth c H locs cells slots Q (F0 m pc ls (st.map (gm_cv z E fm))) := by
  obtain ⟨⟨hx, hb, hr, hml, hown⟩, hts, hlk, hnm, hE, hfr, hlo⟩ := F
  obtain ⟨real, len, hnx, hd, hq⟩ := gm_at_ok hat
  simp only [gm_res, gm_pl, Bool.and_eq_true, decide_eq_true_eq, beq_iff_eq] at hq
  obtain ⟨rfl, rfl⟩ := hq
  subst hnx
  simp only [gm_stp] at hs
  split at hs
  · rename_i r j a st0
    split at hs
    · rename_i h2 hpf
      simp only [gm_go, Option.some.injEq, Sum.inl.injEq, Prod.mk.injEq] at hs
      obtain ⟨rfl, rfl, rfl, rfl⟩ := hs
      unfold gm_aas at hpf
      split at hpf
      · rename_i ha
        split at hpf
        · rename_i t rs hcell
          split at hpf
          · rename_i ht
            obtain ⟨hin, hcr⟩ := ht
            cases hpf
            have hlt : j.toNatClampNeg < rs.length := Nat.not_le.mp fun y => hin (Or.inr y)
            obtain ⟨hty, hao, hc⟩ := gm_tys_obj (dA := dA) (t := t) (by rw [← hcr]; exact gm_cls_99 r hP)
            have hr50 : ¬ r = 10050 := by
              intro y
              subst y
              have e0 : gm_cls h 10050 = 98 := by simp [gm_cls]
              rw [e0] at hcr
              omega
            rw [List.map_cons, List.map_cons, List.map_cons, gm_cv_ref (a := a) (by omega), gm_ad_in ha, gm_cv_ref hr50]
            have hany : va_Any (gm_cn (gm_tc t)) s H (gm_ad z E r) := by
              unfold gm_cls at hcr
              split at hcr
              · rename_i har
                rw [gm_ad_in har]
                split at hcr
                · rename_i c0 fs hcell2
                  obtain ⟨hc10, hcl⟩ := gm_obj hP hcell2
                  refine va_rAny hE.2.1 hP (gm_ce_obj hcell2) hcl (fun comp c9 y1 y2 => ?_)
                  rw [gm_cl_cn c0 hc10, hcr] at y2
                  cases y1.symm.trans y2
                  exact va_asg _ _
                · omega
              · split at hcr
                · rename_i hstr
                  rw [gm_ad_out (30 + (r - 10030)) (by omega)]
                  obtain ⟨cell, g1, g2, g3⟩ := vk_recv hE.2.2.1 (i := r - 10030) (by omega) hS
                  obtain ⟨kC, hkC, -⟩ := Vm.findClass_spec g3
                  refine ⟨cell, g1, g2, ⟨kC, hkC⟩, fun comp y => ?_⟩
                  rw [← hcr] at y
                  cases (show s.vm.findClass "java/lang/String" = some comp from y).symm.trans g3
                  exact va_asg _ _
                · omega
            refine va_astqM hx hb hE.2.1 hP (gm_ws_D h) hS a t (gm_ce_row hcell) hty hany hin hd (fun H1 locs1 g1 _ g3 => ?_)
            refine kk H1 locs1 ls ?_ g3 hL
            rw [← gm_ws_set]
            have e1 : gm_ce z E fm dA (.inl (t, .inr (rs.set j.toNatClampNeg (some r)))) = .inl (dA t, rs.length, .inr (.inr (.inr (.inr (va_up (fun q => (rs.getD q none).map (gm_ad z E)) j.toNatClampNeg (some (gm_ad z E r))))))) := by
              show (.inl (dA t, (rs.set j.toNatClampNeg (some r)).length, .inr (.inr (.inr (.inr (fun q => ((rs.set j.toNatClampNeg (some r)).getD q none).map (gm_ad z E)))))) : va_E) = _
              rw [List.length_set]
              have e2 : (fun q => ((rs.set j.toNatClampNeg (some r)).getD q none).map (gm_ad z E)) = va_up (fun q => (rs.getD q none).map (gm_ad z E)) j.toNatClampNeg (some (gm_ad z E r)) := by
                funext q
                unfold va_up
                by_cases hk : q = j.toNatClampNeg
                · subst hk
                  rw [if_pos rfl, List.getD_eq_getElem?_getD, List.getElem?_set_self hlt]
                  rfl
                · rw [if_neg hk, List.getD_eq_getElem?_getD, List.getElem?_set_ne (Ne.symm hk), ← List.getD_eq_getElem?_getD]
              rw [e2]
            rw [e1]
            exact g1
          · cases hpf
        · cases hpf
      · cases hpf
    · cases hs
  · cases hs
set_option maxHeartbeats 4000000 in
theorem gm_o_arraycopy {kq : Nat} (F : gm_Fr D z E fm dA X i d p R s m args meth c) (hat : gm_at i pc = some (.invokedynamic kq, nx)) (hs : gm_stp X (gm_rt i) (.invokedynamic kq) nx L st h = some (.inl (pc', L', st', h'))) (hP : va_P D gm_cl (gm_ws z E fm dA h) H) (hS : va_S (gm_A z) s.heap H locs) (hL : gm_LR z E fm ls (gm_ml i) L)
    (kk : gm_kk D z E fm dA p l e R s m args below meth c Q (gm_ml i) cells slots pc' L' st' h') : W p l e R s m args below meth c H locs cells slots Q (F0 m pc ls (st.map (gm_cv z E fm))) := by
  obtain ⟨⟨hx, hb, hr, hml, hown⟩, hts, hlk, hnm, hE, hfr, hlo⟩ := F
  obtain ⟨real, len, hnx, hd, hq⟩ := gm_at_ok hat
  simp only [gm_stp] at hs
  split at hs
  · rename_i n dd b sp a st0
    split at hs
    · rename_i hst8
      split at hs
      · rename_i h2 hpf
        simp only [gm_go, Option.some.injEq, Sum.inl.injEq, Prod.mk.injEq] at hs
        obtain ⟨rfl, rfl, rfl, rfl⟩ := hs
        subst hnx
        cases real with
        | invokestatic q =>
          simp only [gm_res, Bool.and_eq_true, beq_iff_eq] at hq
          obtain ⟨q1, rfl⟩ := hq
          obtain ⟨w1, w2, w3, w4, w5, hw⟩ := gm_anyM_ok q1
          have hw : Cond.methodLink (gm_cn (gm_mc i)) q arraycopyName ∈ gm_gw := by
            simp only [gm_mok] at hw
            rw [if_neg (by omega), if_pos trivial] at hw
            exact gm_in_ok hw
          unfold gm_acp at hpf
          split at hpf
          · rename_i ha
            obtain ⟨ha, hb2⟩ := ha
            split at hpf
            · rename_i t xs u ys hc1 hc2
              split at hpf
              · rename_i hcond
                obtain ⟨rfl, rfl, c1, c2, c3, c4, c5⟩ := hcond
                cases hpf
                rw [List.map_cons, List.map_cons, List.map_cons, List.map_cons, List.map_cons, gm_cv_ref (a := a) (by omega), gm_ad_in ha, gm_cv_ref (a := b) (by omega), gm_ad_in hb2]
                refine va_copyi hx hb (hml.trans (hL.1.1.symm)) hown (hts _ hw) (hts _ gm_w_cp.1) (hts _ gm_w_cp.2.1) (hts _ gm_w_cp.2.2) hE.2.1 hP (gm_ws_D h) hS a b 0 0 (gm_ce_arr hc1) (gm_ce_arr hc2) rfl rfl rfl c1 c2 c3 c4 c5 (fun _ _ => rfl) (by omega) ?_ hd (fun H1 locs1 g1 _ g3 => ?_)
                · have e0 : ((st0.map (gm_cv z E fm)).map fun v => v.category).sum = (st0.map fun v => v.category).sum := gm_cat_sum hE.2.2.2.2.2.2.2.2.2.2.2.2 st0
                  rw [e0]
                  have : nativeFrameWords "java/lang/System" "arraycopy" 5 = 7 := by decide
                  omega
                · refine kk H1 locs1 ls ?_ g3 hL
                  rw [← gm_ws_set]
                  have e1 : gm_ce z E fm dA (.inl (0, .inl (gm_cpy xs ys sp.toNatClampNeg dd.toNatClampNeg n.toNatClampNeg))) = .inl (dA 0, ys.length, .inl (va_cpy (fun k => xs.getD k 0) (fun k => ys.getD k 0) sp.toNatClampNeg dd.toNatClampNeg n.toNatClampNeg)) := by
                    obtain ⟨e2, e3⟩ := gm_cpy_ok xs ys sp.toNatClampNeg dd.toNatClampNeg n.toNatClampNeg c5
                    show (.inl (dA 0, (gm_cpy xs ys sp.toNatClampNeg dd.toNatClampNeg n.toNatClampNeg).length, .inl (fun k => (gm_cpy xs ys sp.toNatClampNeg dd.toNatClampNeg n.toNatClampNeg).getD k 0)) : va_E) = _
                    rw [e2, e3]
                  rw [e1]
                  exact g1
              · cases hpf
            · cases hpf
          · cases hpf
        | _ => simp [gm_res] at hq
      · cases hs
    · cases hs
  · cases hs
set_option maxHeartbeats 4000000 in
theorem gm_o_objinit  (F : gm_Fr D z E fm dA X i d p R s m args meth c) (hat : gm_at i pc = some (.invokespecial 9999, nx)) (hs : gm_stp X (gm_rt i) (.invokespecial 9999) nx L st h = some (.inl (pc', L', st', h'))) (hP : va_P D gm_cl (gm_ws z E fm dA h) H) (hS : va_S (gm_A z) s.heap H locs) (hL : gm_LR z E fm ls (gm_ml i) L)
    (kk : gm_kk D z E fm dA p l e R s m args below meth c Q (gm_ml i) cells slots pc' L' st' h') : W p l e R s m args below meth c H locs cells slots Q (F0 m pc ls (st.map (gm_cv z E fm))) := by
  obtain ⟨⟨hx, hb, hr, hml, hown⟩, hts, hlk, hnm, hE, hfr, hlo⟩ := F
  obtain ⟨real, len, hnx, hd, hq⟩ := gm_at_ok hat
  simp only [gm_stp, if_true] at hs
  split at hs
  · rename_i a st0
    split at hs
    · rename_i hst8
      obtain ⟨ha, hst8⟩ := hst8
      have ha : @LT.lt Nat _ a 10000 := ha
      simp only [gm_go, Option.some.injEq, Sum.inl.injEq, Prod.mk.injEq] at hs
      obtain ⟨rfl, rfl, rfl, rfl⟩ := hs
      subst hnx
      cases real with
      | invokespecial q =>
        simp only [gm_res, Bool.and_eq_true, beq_iff_eq, if_true] at hq
        obtain ⟨q1, rfl⟩ := hq
        obtain ⟨w1, w2, w3, w4, w5, hw⟩ := gm_anyM_ok q1
        have hw : Cond.methodLink (gm_cn (gm_mc i)) q objectInit ∈ gm_gw := by
          simp only [gm_mok, if_true] at hw
          exact gm_in_ok hw
        rw [List.map_cons, gm_cv_ref (a := a) (by omega), gm_ad_in ha]
        have e0 : ((st0.map (gm_cv z E fm)).map fun v => v.category).sum = (st0.map fun v => v.category).sum := gm_cat_sum hE.2.2.2.2.2.2.2.2.2.2.2.2 st0
        refine W.objInit hx hb hown (hts _ hw) (hts _ gm_w_oi.1) (hts _ gm_w_oi.2) rfl (hL.1.1.trans hml.symm) rfl hd (by omega) (by show 2 * 0 + _ + 12 ≤ _; rw [e0]; omega) ?_
        exact kk H locs ls hP hS hL
      | _ => simp [gm_res] at hq
    · cases hs
  · cases hs
end GM6b
