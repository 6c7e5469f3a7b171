-- calls, and the whole machine
section GM8
variable {z : Nat} {E : Nat → Nat} {fm : Value} {dA : Nat → ClassId} {D : va_G} {X : List Int32}
variable {p : Program} {l : Launch} {e : Env} {R : Room} {s : State} {m : MethodId} {args : Array Value} {below : List Frame} {meth : Method} {c : Code} {Q : State → Prop} {H : Heap} {locs : List Loc} {cells slots : Nat} {ls : Array Slot} {i d pc pc' nx : Nat} {L st L' st' : List Value} {h h' : gm_H}
/-- a heap that holds the cells is so large at least -/
theorem gm_low (hP : va_P D gm_cl (gm_ws z E fm dA h) H) (hz : z ≤ H.size) : z + h.length ≤ H.size := by
  cases hh : h.length with
  | zero => omega
  | succ k =>
    obtain ⟨ek, hek⟩ : ∃ ek, h[k]? = some ek := ⟨_, List.getElem?_eq_getElem (by omega)⟩
    have y := (hP k _ (gm_ws_get hek)).lt
    have y : z + k < H.size := y
    omega
def gm_Pc (D : va_G) (z : Nat) (E : Nat → Nat) (fm : Value) (dA : Nat → ClassId) (X : List Int32) (as : List Value) (h : gm_H) : Array Value → State → Prop := va_Pc (as.map (gm_cv z E fm)) (fun U => (U.heap.size = z + h.length ∧ va_P D gm_cl (gm_ws z E fm dA h) U.heap) ∧ gm_Ext D z E fm dA X U)
def gm_Qc (D : va_G) (z : Nat) (E : Nat → Nat) (fm : Value) (dA : Nat → ClassId) (r : Option Value) (h : gm_H) : Array Value → State → Outcome → State → Prop := fun _ st oc t => oc = .returned (r.map (gm_cv z E fm)) ∧ va_P D gm_cl (gm_ws z E fm dA h) t.heap ∧ va_F (gm_A z) st t
def gm_ret (i pc : Nat) (r : Option Value) : Prop := (∃ (v : Int32) (ty : FieldType), r = some (.int v) ∧ decode (gm_by i) pc = .ok (.ireturn, 1) ∧ gm_rt i = some ty ∧ narrow ty (.int v) = .int v) ∨ (r = none ∧ gm_rt i = none ∧ decode (gm_by i) pc = .ok (.return_, 1))
theorem gm_Pc_blind {as : List Value} : FrameBlind (gm_Pc D z E fm dA X as h) := by
  intro a U g mk q
  obtain ⟨q0, q1, q2⟩ := q
  exact ⟨q0, q1, gm_Ext.same (U := U) rfl rfl q2⟩
theorem gm_stp_ret {op : Instr} {r : Option Value} (hat : gm_at i pc = some (op, nx)) (hs : gm_stp X (gm_rt i) op nx L st h = some (.inr (.inl r))) : gm_ret i pc r ∧ st = r.toList ∧ (∀ v, r = some v → gm_cv z E fm v = v) := by
  obtain ⟨real, len, hnx, hd, hq⟩ := gm_at_ok hat
  have hgo : ∀ {a : Nat} {L st : List Value} {h : gm_H}, gm_go a L st h = some (.inr (.inl r)) → False := fun y => by simp [gm_go] at y
  have hcal : ∀ {j nx : Nat} {st : List Value}, gm_cal j nx st = some (.inr (.inl r)) → False := fun y => by
    unfold gm_cal at y
    split at y <;> cases y
  cases op with
  | ireturn =>
    simp only [gm_res, gm_pl, Bool.and_eq_true, decide_eq_true_eq, beq_iff_eq] at hq
    obtain ⟨rfl, rfl⟩ := hq
    simp only [gm_stp] at hs
    split at hs
    · rename_i v
      split at hs
      · rename_i ty hty
        split at hs
        · rename_i hn
          cases hs
          exact ⟨Or.inl ⟨v, ty, rfl, hd, hty, hn⟩, rfl, fun w y => by cases y; rfl⟩
        · cases hs
      · cases hs
    · cases hs
  | return_ =>
    simp only [gm_res, gm_pl, Bool.and_eq_true, decide_eq_true_eq, beq_iff_eq] at hq
    obtain ⟨rfl, rfl⟩ := hq
    simp only [gm_stp] at hs
    split at hs
    · rename_i hty
      cases hs
      exact ⟨Or.inr ⟨rfl, hty, hd⟩, rfl, fun w y => by cases y⟩
    · cases hs
  | iadd => simp only [gm_stp, gm_st2] at hs; (repeat' split at hs) <;> first | exact (hgo hs).elim | cases hs
  | isub => simp only [gm_stp, gm_st2] at hs; (repeat' split at hs) <;> first | exact (hgo hs).elim | cases hs
  | imul => simp only [gm_stp, gm_st2] at hs; (repeat' split at hs) <;> first | exact (hgo hs).elim | cases hs
  | iand => simp only [gm_stp, gm_st2] at hs; (repeat' split at hs) <;> first | exact (hgo hs).elim | cases hs
  | ishr => simp only [gm_stp, gm_st2] at hs; (repeat' split at hs) <;> first | exact (hgo hs).elim | cases hs
  | iushr => simp only [gm_stp, gm_st2] at hs; (repeat' split at hs) <;> first | exact (hgo hs).elim | cases hs
  | ineg => simp only [gm_stp, gm_st1] at hs; (repeat' split at hs) <;> first | exact (hgo hs).elim | cases hs
  | i2s => simp only [gm_stp, gm_st1] at hs; (repeat' split at hs) <;> first | exact (hgo hs).elim | cases hs
  | i2c => simp only [gm_stp, gm_st1] at hs; (repeat' split at hs) <;> first | exact (hgo hs).elim | cases hs
  | i2b => simp only [gm_stp, gm_st1] at hs; (repeat' split at hs) <;> first | exact (hgo hs).elim | cases hs
  | _ =>
    simp only [gm_stp] at hs
    first
      | exact (hgo hs).elim
      | exact (hcal hs).elim
      | (cases hs; done)
      | ((repeat' split at hs) <;> first | exact (hgo hs).elim | exact (hcal hs).elim | cases hs)
/-- behind a call -/
theorem gm_after {g0 : JFrame} {rest : List Value} {mc ms : Nat} {r : Option Value} {a : Array Value} (hg0 : g0 = F0 m pc ls st') (hr : va_Run p l e R s m args below meth c H locs cells slots mc ms g0 rest (gm_Qc D z E fm dA r h' a) (gm_A z)) (hS : va_S (gm_A z) s.heap H locs)
    (kk : ∀ (H1 : Heap) (locs1 : List Loc), va_P D gm_cl (gm_ws z E fm dA h') H1 → va_S (gm_A z) s.heap H1 locs1 → W p l e R s m args below meth c H1 locs1 (cells + mc) (slots + ms) Q (F0 m (pc + 3) ls ((r.map (gm_cv z E fm)).toList ++ rest))) : W p l e R s m args below meth c H locs cells slots Q g0 := by
  subst hg0
  intro T hT Y
  obtain ⟨v, st₀, t, T', Ll, h0, X', hLl, e1, e2, ⟨hv, hp, hz, hk⟩, step⟩ := hr T hT Y
  cases hv
  rw [h0] at hz hk
  obtain ⟨t2, a1, b1⟩ := kk T'.heap (locs ++ Ll) (by rw [e1]; exact hp) ⟨Nat.le_trans hS.1 (by rw [e1]; exact hz), fun q h1 h2 => by rw [e1, hk q (Nat.lt_of_lt_of_le h1 hS.1) h2]; exact hS.2.1 q h1 h2, fun q hq => by
      rcases List.mem_append.mp hq with y | y
      · exact hS.2.2 q y
      · exact hLl q y⟩ T' rfl X'
  exact ⟨t2, step t2 a1, b1⟩
theorem gm_ent_LR {ls : Array Slot} {as : List Value} {j : Nat} (hc : as.all gm_cat1 = true) (hn : as.length ≤ gm_ml j) (hl : lv_has ls (gm_ml j) (lv_args 0 (as.map (gm_cv z E fm)))) (hf : fm.category = 1) : gm_LR z E fm ls (gm_ml j) (gm_ent j as) := by
  refine ⟨⟨hl.1, hl.2.1, fun q hq => ?_⟩, by unfold gm_ent; simp; omega⟩
  obtain ⟨v, h1, h2, h3⟩ := gm_lv_of hq
  have key : ∀ (vs : List Value) (k0 k : Nat) (w : Value), vs.all gm_cat1 = true → vs[k]? = some w → (k0 + k, gm_cv z E fm w) ∈ lv_args k0 (vs.map (gm_cv z E fm)) := by
    intro vs
    induction vs with
    | nil => intro k0 k w _ hk; simp at hk
    | cons a vs ih =>
      intro k0 k w ha hk
      simp only [List.all_cons, Bool.and_eq_true] at ha
      have hcat : (gm_cv z E fm a).category = 1 := gm_cv_cat hf ha.1
      rw [List.map_cons]
      unfold lv_args
      cases k with
      | zero => cases hk; exact List.mem_cons_self
      | succ k =>
        refine List.mem_cons_of_mem _ ?_
        have y := ih (k0 + 1) k w ha.2 (by simpa using hk)
        rw [hcat, show k0 + (k + 1) = k0 + 1 + k by omega]
        exact y
  have hk : as[q.1]? = some v := by
    unfold gm_ent at h1
    by_cases hlt : q.1 < as.length
    · rw [List.getElem?_append_left hlt] at h1; exact h1
    · rw [List.getElem?_append_right (by omega), List.getElem?_replicate] at h1
      split at h1
      · cases h1; cases h2
      · cases h1
  have y := key as 0 q.1 v hc hk
  rw [Nat.zero_add, ← h3] at y
  exact hl.2.2 _ y
end GM8
