-- what a cell of the machine is in the heap of the JVM: cell k lies at z + k
def gm_ad (z : Nat) (E : Nat → Nat) (a : Nat) : Nat := if a < 10000 then z + a else E (a - 10000)
def gm_cv (z : Nat) (E : Nat → Nat) (fm : Value) (v : Value) : Value := match v with
  | .ref a => if a = 10050 then fm else .ref (gm_ad z E a)
  | .int x => .int x
  | .long x => .long x
  | .null => .null
  | .float x => .float x
  | .double x => .double x
  | .retAddr x => .retAddr x
def gm_ce (z : Nat) (E : Nat → Nat) (fm : Value) (dA : Nat → ClassId) (e : gm_E) : va_E := match e with
  | .inl (t, .inl xs) => .inl (dA t, xs.length, .inl (fun j => xs.getD j 0))
  | .inl (t, .inr rs) => .inl (dA t, rs.length, .inr (.inr (.inr (.inr (fun j => (rs.getD j none).map (gm_ad z E))))))
  | .inr (c, fs) => .inr (c, fs.map (gm_cv z E fm))
def gm_ws (z : Nat) (E : Nat → Nat) (fm : Value) (dA : Nat → ClassId) (h : gm_H) : va_W := h.mapIdx (fun k e => (z + k, gm_ce z E fm dA e))
def gm_tys (dA : Nat → ClassId) : List (ClassId × FieldType) := [(dA 0, .int), (dA 1, .object RX1), (dA 2, .object RX0), (dA 3, .object RX4), (dA 4, .object RX5), (dA 5, .array .int), (dA 6, .object RJ0)]
def gm_sz (e : gm_E) : Nat := match e with
  | .inl (_, .inl xs) => xs.length
  | .inl (_, .inr rs) => rs.length
  | .inr (_, fs) => fs.length
def gm_sl (h : gm_H) : Nat := (h.map gm_sz).sum
def gm_gw : List Cond := lw_tbl.filter goodWord
def gm_in (k : Nat) (w : Cond) : Bool := decide (lw_tbl[k]? = some w) && goodWord w
theorem gm_in_ok {k : Nat} {w : Cond} (h : gm_in k w = true) : w ∈ gm_gw := by
  simp only [gm_in, Bool.and_eq_true, decide_eq_true_eq] at h
  exact List.mem_filter.mpr ⟨List.mem_of_getElem? h.1, h.2⟩
theorem gm_good {ws : List Cond} (h : ∀ w ∈ ws, w ∈ gm_gw) : GoodIn gm_gw ws := fun w hw => ⟨h w hw, good_of_word (List.mem_filter.mp (h w hw)).2⟩
def gm_stx : List String := ["", "catch", "rsh", "dry", "hsd", "fine", "bl"]
def gm_slen : List Nat := [0, 5, 3, 3, 3, 4, 2]
def gm_aoc : List String := [RX1, RX0, RX4, RX5, RJ0]
abbrev gm_A (z : Nat) : Nat → Prop := fun q => z ≤ q
/-- what holds outside the machine's cells -/
def gm_Ext (D : va_G) (z : Nat) (E : Nat → Nat) (fm : Value) (dA : Nat → ClassId) (X : List Int32) (U : State) : Prop :=
  z ≤ U.heap.size ∧ va_K D gm_cl (gm_tys dA) U ∧
  vk_S 7 gm_slen gm_sb (fun k => E (30 + k)) (fun k => E (10 + k)) (gm_A z) U U.heap ∧
  (∀ e ∈ gm_pS, vk_R (gm_cn e.1) e.2.1 (gm_stx.getD e.2.2.1 "") (E (30 + e.2.2.1)) U) ∧
  (va_T .int (E 1) 6 (fun j => .int (gm_abv.getD j 0)) (gm_A z) U U.heap ∧ va_Z "WaterButts" "ABOVE" "[I" (.ref (E 1)) (gm_A z) U U.heap) ∧
  va_Z "java/lang/String" "COMPACT_STRINGS" "Z" (.int 1) (gm_A z) U U.heap ∧
  va_Z "jdk/internal/util/Preconditions" "SIOOBE_FORMATTER" "Ljava/util/function/BiFunction;" fm (gm_A z) U U.heap ∧
  (va_X (E 0) X.length (fun j => X.getD j 0) U U.heap ∧ E 0 < z ∧ X.length ≤ 384) ∧
  (∀ e ∈ gm_pN2, va_Nw (.methodLinkNest (gm_cn e.1) e.2.1 (gm_y e.2.2.1) "WaterButts") U) ∧
  va_Nw (.fieldLinkNest RX1 24 "WaterButts" "ABOVE" "[I" "WaterButts") U ∧
  (∀ C ∈ gm_aoc, va_AO C U) ∧ (Cond.arrayOver (.array .int)).before #[] U = true ∧ fm.category = 1
def gm_lv (z : Nat) (E : Nat → Nat) (fm : Value) (L : List Value) : List (Nat × Value) := ((L.mapIdx (fun k v => (k, v))).filter (fun q => gm_cat1 q.2)).map (fun q => (q.1, gm_cv z E fm q.2))
def gm_LR (z : Nat) (E : Nat → Nat) (fm : Value) (ls : Array Slot) (nL : Nat) (L : List Value) : Prop := lv_has ls nL (gm_lv z E fm L) ∧ L.length = nL
/-- an array of rows of ints: what the tables say of it goes along -/
theorem gm_AO_moved {ty : FieldType} {u U : State} (hvm : u.vm.Alike U.vm) (h : (Cond.arrayOver (.array ty)).before #[] u = true) : (Cond.arrayOver (.array ty)).before #[] U = true := by
  have h0 := h
  obtain ⟨comp, c, k, h1, h3, h4, h5⟩ := Cond.arrayOver_specA (args := #[]) (first := u) (o := none) (s := u) (idx := []) h
  simp only [Cond.before, Cond.holds, Cond.value, beq_iff_eq] at h0
  rw [h1, Option.bind_some] at h0
  have f1 : U.vm.findClass (FieldType.array ty).toString = some comp := by rw [hvm.findClass]; exact h1
  simp only [Option.bind_eq_some_iff, Option.map_eq_some_iff] at h0
  obtain ⟨c2, hi, k2, hk2, hb⟩ := h0
  obtain ⟨k', hk', he⟩ := hvm.2.2 _ _ hk2
  have hi2 : (U.vm.classes.findIdx? fun (x : Class) => match x.kind with | .array component _ => component == comp | _ => false) = some c2 := by
    refine (va_idx_bare U.vm comp).symm.trans ?_
    first | rw [hvm.bare_eq] | rw [← hvm.bare_eq]
    exact (va_idx_bare u.vm comp).trans hi
  simp only [Cond.before, Cond.holds, Cond.value, beq_iff_eq]
  rw [f1, Option.bind_some]
  simp only [Option.bind_eq_some_iff, Option.map_eq_some_iff]
  refine ⟨c2, hi2, k', hk', ?_⟩
  rw [he, hvm.findClass]
  exact hb
section GM4
variable {z : Nat} {E : Nat → Nat} {fm : Value} {dA : Nat → ClassId} {D : va_G} {X : List Int32}
theorem gm_lv_mem {L : List Value} {k : Nat} {v : Value} (h : L[k]? = some v) (hc : gm_cat1 v = true) : (k, gm_cv z E fm v) ∈ gm_lv z E fm L := by
  unfold gm_lv
  refine List.mem_map.mpr ⟨(k, v), List.mem_filter.mpr ⟨?_, hc⟩, rfl⟩
  refine List.mem_of_getElem? (i := k) ?_
  rw [List.getElem?_mapIdx, h]
  rfl
theorem gm_lv_of {L : List Value} {q : Nat × Value} (h : q ∈ gm_lv z E fm L) : ∃ v, L[q.1]? = some v ∧ gm_cat1 v = true ∧ q.2 = gm_cv z E fm v := by
  unfold gm_lv at h
  obtain ⟨r, hr, rfl⟩ := List.mem_map.mp h
  obtain ⟨hr, hc⟩ := List.mem_filter.mp hr
  obtain ⟨k, hk⟩ := List.getElem?_of_mem hr
  rw [List.getElem?_mapIdx] at hk
  cases hl : L[k]? with
  | none => rw [hl] at hk; cases hk
  | some v =>
    rw [hl] at hk
    cases hk
    exact ⟨v, hl, hc, rfl⟩
theorem gm_LR.get {ls : Array Slot} {nL : Nat} {L : List Value} (hL : gm_LR z E fm ls nL L) {k : Nat} {v : Value} (h : L[k]? = some v) (hc : gm_cat1 v = true) : ls[k]? = some (.val (gm_cv z E fm v)) :=
  hL.1.2.2 _ (gm_lv_mem h hc)
theorem gm_cv_cat {v : Value} (hf : fm.category = 1) (h : gm_cat1 v = true) : (gm_cv z E fm v).category = 1 := by
  cases v <;> simp [gm_cat1] at h
  · rfl
  · rename_i a
    show (if a = 10050 then fm else Value.ref (gm_ad z E a)).category = 1
    split
    · exact hf
    · rfl
theorem gm_LR.put {ls' : Array Slot} {nL : Nat} {L : List Value} {k : Nat} {v : Value} (hf : fm.category = 1) (hlen : L.length = nL) (hk : k < nL) (hc : gm_cat1 v = true)
    (h' : lv_has ls' nL ((k, gm_cv z E fm v) :: (gm_lv z E fm L).filter (fun q => !(q.1 == k) && !(q.1 + 1 == k && q.2.category == 2)))) : gm_LR z E fm ls' nL (L.set k v) := by
  refine ⟨⟨h'.1, h'.2.1, fun q hq => ?_⟩, by rw [List.length_set]; exact hlen⟩
  obtain ⟨w, h1, h2, h3⟩ := gm_lv_of hq
  by_cases hqk : q.1 = k
  · have hkl : k < L.length := by omega
    rw [hqk, List.getElem?_set_self hkl] at h1
    cases h1
    have : q = (k, gm_cv z E fm v) := by
      obtain ⟨q1, q2⟩ := q
      simp only at hqk h3
      rw [hqk, h3]
    rw [this]
    exact h'.2.2 _ List.mem_cons_self
  · rw [List.getElem?_set_ne (Ne.symm hqk)] at h1
    refine h'.2.2 q (List.mem_cons_of_mem _ (List.mem_filter.mpr ⟨?_, ?_⟩))
    · have := gm_lv_mem (z := z) (E := E) (fm := fm) h1 h2
      rw [← h3] at this
      exact this
    · have hcat : q.2.category = 1 := by rw [h3]; exact gm_cv_cat hf h2
      simp [hqk, hcat]
theorem gm_ws_get {h : gm_H} {k : Nat} {e : gm_E} (he : h[k]? = some e) : (gm_ws z E fm dA h)[k]? = some (z + k, gm_ce z E fm dA e) := by
  unfold gm_ws
  rw [List.getElem?_mapIdx, he]
  rfl
theorem gm_ws_len (h : gm_H) : (gm_ws z E fm dA h).length = h.length := by simp [gm_ws]
theorem gm_ws_set {h : gm_H} {k : Nat} {e : gm_E} : (gm_ws z E fm dA h).set k (z + k, gm_ce z E fm dA e) = gm_ws z E fm dA (h.set k e) := by
  apply List.ext_getElem?
  intro j
  unfold gm_ws
  rw [List.getElem?_mapIdx]
  by_cases hjk : j = k
  · subst hjk
    by_cases hl : j < h.length
    · rw [List.getElem?_set_self (by simpa using hl), List.getElem?_set_self hl]
      rfl
    · rw [List.getElem?_eq_none (by simpa using hl), List.getElem?_eq_none (by simpa using hl)]
      rfl
  · rw [List.getElem?_set_ne (Ne.symm hjk), List.getElem?_set_ne (Ne.symm hjk), List.getElem?_mapIdx]
theorem gm_ws_app {h : gm_H} {e : gm_E} : gm_ws z E fm dA (h ++ [e]) = gm_ws z E fm dA h ++ [(z + h.length, gm_ce z E fm dA e)] := by
  unfold gm_ws
  rw [List.mapIdx_concat]
theorem gm_ws_D (h : gm_H) : va_D (gm_A z) (gm_ws z E fm dA h) := by
  have key : ∀ (k : Nat) (q : Nat × va_E), (gm_ws z E fm dA h)[k]? = some q → q.1 = z + k := by
    intro k q hq
    unfold gm_ws at hq
    rw [List.getElem?_mapIdx] at hq
    cases hk : h[k]? with
    | none => rw [hk] at hq; cases hq
    | some e => rw [hk] at hq; cases hq; rfl
  refine ⟨fun i j p q hi hj hpq => ?_, fun k q hq => ?_⟩
  · have h1 := key i p hi
    have h2 := key j q hj
    omega
  · rw [key k q hq]
    exact Nat.le_add_right z k
theorem gm_sl_set {h : gm_H} {k : Nat} {e e' : gm_E} (he : h[k]? = some e) (hs : gm_sz e' = gm_sz e) : gm_sl (h.set k e') = gm_sl h := by
  unfold gm_sl
  congr 1
  apply List.ext_getElem?
  intro j
  rw [List.getElem?_map, List.getElem?_map]
  by_cases hjk : j = k
  · subst hjk
    have hl := (List.getElem?_eq_some_iff.mp he).1
    rw [List.getElem?_set_self hl, he]
    simp [hs]
  · rw [List.getElem?_set_ne (Ne.symm hjk)]
theorem gm_sl_app {h g : gm_H} : gm_sl (h ++ g) = gm_sl h + gm_sl g := by
  unfold gm_sl
  rw [List.map_append, List.sum_append]
theorem gm_Ext.same {U V : State} (hv : V.vm = U.vm) (hh : V.heap = U.heap) (h : gm_Ext D z E fm dA X U) : gm_Ext D z E fm dA X V := by
  have hal : U.vm.Alike V.vm := by rw [hv]; exact Vm.Alike.refl _
  obtain ⟨h1, h2, h3, h4, ⟨h5, h5b⟩, h6, h7, ⟨h8, h8b⟩, h9, h10, h11, h12, h13⟩ := h
  unfold gm_Ext
  rw [hh]
  refine ⟨h1, va_K.moved hal h2, vk_S.moved hal h3, fun e he => vk_R.same hv (h4 e he), ⟨va_T.moved hal h5, va_Z.moved hal h5b⟩, va_Z.moved hal h6, va_Z.moved hal h7, ⟨va_X.moved hal h8, h8b⟩, fun e he => va_Nw.same rfl hv.symm (h9 e he), va_Nw.same rfl hv.symm h10, fun C hC => va_AO.moved hal (h11 C hC), ?_, h13⟩
  exact gm_AO_moved hal h12
/-- the outside at a later state: the tables are warmer, cells below z are as they were -/
theorem gm_Ext.warm {s U : State} {H : Heap} {locs : List Loc} (hW : s.WarmedH U.vm) (hU : U.heap = H) (hS : va_S (gm_A z) s.heap H locs) (h : gm_Ext D z E fm dA X s) : gm_Ext D z E fm dA X U := by
  have hal : s.vm.Alike U.vm := hW.alike
  obtain ⟨h1, h2, h3, h4, ⟨h5, h5b⟩, h6, h7, ⟨h8, h8b⟩, h9, h10, h11, h12, h13⟩ := h
  unfold gm_Ext
  rw [hU]
  have hq : ∀ a : Nat, a < s.heap.size → ¬ gm_A z a → H[a]? = s.heap[a]? := fun a g1 g2 => hS.2.1 a g1 g2
  refine ⟨Nat.le_trans h1 hS.1, va_K.moved hal h2, vk_S.moved hal (vk_S.kept h3 hq), fun e he => vk_R.warm hW (h4 e he), ⟨va_T.moved hal (va_T.kept h5 hq), va_Z.moved hal (va_Z.kept h5b hq)⟩, va_Z.moved hal (va_Z.kept h6 hq), va_Z.moved hal (va_Z.kept h7 hq), ⟨va_X.moved hal (va_X.kept h8 (hS.2.1 _ (Nat.lt_of_lt_of_le h8b.1 h1) (Nat.not_le.mpr h8b.1))), h8b⟩, fun e he => va_Nw.warmM hW (h9 e he), va_Nw.warmF hW h10, fun C hC => va_AO.moved hal (h11 C hC), gm_AO_moved hal h12, h13⟩
end GM4
