-- the machine's soundness: frames, calls, one induction on the fuel
def gm_Snd (D : va_G) (z : Nat) (E : Nat → Nat) (fm : Value) (dA : Nat → ClassId) (X : List Int32) (d i pc : Nat) (L st : List Value) (h : gm_H) (r : Option Value) (h' : gm_H) : Prop :=
  ∀ (p : Program) (l : Launch) (e : Env) (R : Room) (s : State) (m : MethodId) (args : Array Value) (below : List Frame) (meth : Method) (c : Code) (Q : State → Prop) (H : Heap) (locs : List Loc) (cells slots : Nat) (ls : Array Slot),
    gm_Fr D z E fm dA X i d p R s m args meth c → va_P D gm_cl (gm_ws z E fm dA h) H → va_S (gm_A z) s.heap H locs → gm_LR z E fm ls (gm_ml i) L → s.heap.size + cells = z + h.length → cells + (h'.length - h.length) ≤ R.cells → slots + (gm_sl h' - gm_sl h) ≤ R.slots →
    (∀ (H1 : Heap) (locs1 : List Loc) (ls1 : Array Slot) (pc1 : Nat), va_P D gm_cl (gm_ws z E fm dA h') H1 → va_S (gm_A z) s.heap H1 locs1 → gm_ret i pc1 r → W p l e R s m args below meth c H1 locs1 (cells + (h'.length - h.length)) (slots + (gm_sl h' - gm_sl h)) Q (F0 m pc1 ls1 ((r.map (gm_cv z E fm)).toList))) →
    W p l e R s m args below meth c H locs cells slots Q (F0 m pc ls (st.map (gm_cv z E fm)))
def gm_rm (d mc ms : Nat) : Room := { frames := d + 1, cells := mc, slots := ms, locals := 40 * d + 40 }
abbrev gm_wsj (j : Nat) : List Cond := Cond.code (gm_y j) (gm_by j) (gm_ml j) (gm_rt j) :: gm_gw
theorem gm_mi_facts (j : Nat) : gm_na j ≤ gm_ml j ∧ gm_ml j ≤ 12 ∧ gm_cn (gm_mc j) = (gm_y j).cls ∧ (gm_y j).cls ≠ "java/lang/invoke/MethodHandle" ∧ (gm_y j).cls ≠ "java/lang/invoke/VarHandle" ∧ plainFor (gm_y j) = true := by
  have h := gm_mi_ok j
  simp only [gm_miok, Bool.and_eq_true, decide_eq_true_eq] at h
  exact ⟨h.1, h.2.1, h.2.2.1, h.2.2.2.1, h.2.2.2.2.1, h.2.2.2.2.2.1⟩
section GM9
variable {z : Nat} {E : Nat → Nat} {fm : Value} {dA : Nat → ClassId} {D : va_G} {X : List Int32}
set_option maxHeartbeats 4000000 in
theorem gm_met (l : Launch) {j d : Nat} {as : List Value} {h h' : gm_H} {r : Option Value} (hc : as.all gm_cat1 = true) (hn : as.length ≤ gm_ml j) (hI : gm_Snd D z E fm dA X d j 0 (gm_ent j as) [] h r h') :
    Met l (gm_y j) (gm_wsj j) (gm_rm d (h'.length - h.length) (gm_sl h' - gm_sl h)) (gm_Pc D z E fm dA X as h) (gm_Qc D z E fm dA r h') (h'.length - h.length) (gm_sl h' - gm_sl h) (gm_A z) := by
  obtain ⟨-, -, hcn, -, -, hpl⟩ := gm_mi_facts j
  refine va_MetF (cc := gm_by j) (maxL := gm_ml j) (ret := gm_rt j) hpl rfl ?_
  intro p e s m args below meth c s₁ B hml hv
  obtain ⟨rfl, ⟨hsz, hP⟩, hE⟩ := hv
  have hts := atoms_spec (ws := gm_wsj j) B.pre
  have hlocks := B.notSynchronized
  have F : gm_Fr D z E fm dA X j d p (gm_rm d (h'.length - h.length) (gm_sl h' - gm_sl h)) s m (as.map (gm_cv z E fm)).toArray meth c :=
    ⟨⟨B.exec, B.bytes, B.returns, hml, by rw [hcn]; exact findClass_of_methodNamed B.named⟩, fun w hw => hts w (List.mem_cons_of_mem _ hw), hlocks, (name_of_methodNamed B.named B.method).1, hE, Nat.le_refl _, Nat.le_refl _⟩
  have hlen : (lg_sl (as.map (gm_cv z E fm))).length ≤ gm_ml j := by
    have key : ∀ vs : List Value, vs.all gm_cat1 = true → (lg_sl (vs.map (gm_cv z E fm))).length = vs.length := by
      intro vs
      induction vs with
      | nil => intro _; rfl
      | cons a vs ih =>
        intro ha
        simp only [List.all_cons, Bool.and_eq_true] at ha
        have hcat : (gm_cv z E fm a).category = 1 := gm_cv_cat hE.2.2.2.2.2.2.2.2.2.2.2.2 ha.1
        rw [List.map_cons]
        unfold lg_sl
        simp [hcat, ih ha.2]
    rw [key as hc]
    exact hn
  have hl := lv_entry (as.map (gm_cv z E fm)) (n := gm_ml j) hlen
  rw [lg_entry_eq]
  generalize (lg_sl (as.map (gm_cv z E fm)) ++ List.replicate (gm_ml j - (lg_sl (as.map (gm_cv z E fm))).length) Slot.unset).toArray = ls at hl ⊢
  refine hI p l e _ s m _ below meth c _ s.heap [] 0 0 ls F hP va_S.rf (gm_ent_LR hc hn hl hE.2.2.2.2.2.2.2.2.2.2.2.2) (by omega) (Nat.le_of_eq (Nat.zero_add _)) (Nat.le_of_eq (Nat.zero_add _)) (fun H1 locs1 ls1 pc1 g1 g2 g3 => ?_)
  rw [Nat.zero_add, Nat.zero_add]
  rcases g3 with ⟨v, ty, rfl, hd, hty, hnr⟩ | ⟨rfl, hty, hd⟩
  · exact W.zret B.exec B.bytes (B.returns.trans hty) hnr (fun t ht hW => ⟨rfl, by rw [ht]; exact g1, g2.F ht⟩) g2.2.2 hd
  · exact W.vret B.exec B.bytes (B.returns.trans hty) (fun t ht hW => ⟨rfl, by rw [ht]; exact g1, g2.F ht⟩) g2.2.2 hd
variable {p : Program} {l : Launch} {e : Env} {R : Room} {s : State} {m : MethodId} {args : Array Value} {below : List Frame} {meth : Method} {c : Code} {Q : State → Prop} {H : Heap} {locs : List Loc} {cells slots : Nat} {ls : Array Slot} {i d pc pc' nx : Nat} {L st L' st' : List Value} {h h' : gm_H}
theorem gm_cal_ok {j nx j' nx' : Nat} {st as rest : List Value} (hs : gm_cal j nx st = some (.inr (.inr (j', nx', as, rest)))) : j' = j ∧ nx' = nx ∧ gm_na j ≤ st.length ∧ as = (st.take (gm_na j)).reverse ∧ rest = st.drop (gm_na j) ∧ (rest.map fun v => v.category).sum ≤ 8 ∧ as.all gm_cat1 = true := by
  unfold gm_cal at hs
  split at hs
  · rename_i hc
    simp only [Option.some.injEq, Sum.inr.injEq, Prod.mk.injEq] at hs
    obtain ⟨rfl, rfl, rfl, rfl⟩ := hs
    refine ⟨rfl, rfl, hc.1, rfl, rfl, hc.2.1, ?_⟩
    rw [List.all_reverse]
    exact hc.2.2
  · cases hs
theorem gm_wsj_good {j : Nat} (hj : j < 223) : GoodIn gm_gw (gm_wsj j) := gm_good (fun w hw => by
  rcases List.mem_cons.mp hw with y | y
  · rw [y]; exact gm_cw hj
  · exact y)
theorem gm_st_split {n : Nat} (st : List Value) : st.map (gm_cv z E fm) = (((st.take n).reverse).map (gm_cv z E fm)).reverse ++ (st.drop n).map (gm_cv z E fm) := by
  rw [← List.map_reverse, List.reverse_reverse, ← List.map_append, List.take_append_drop]
/-- a call, any kind: the callee's frames are sound, and what comes behind it -/
theorem gm_call {op : Instr} {j nx' : Nat} {as rest : List Value} {r : Option Value} {d : Nat} (F : gm_Fr D z E fm dA X i (d + 1) p R s m args meth c) (hat : gm_at i pc = some (op, nx)) (hs : gm_stp X (gm_rt i) op nx L st h = some (.inr (.inr (j, nx', as, rest)))) (hP : va_P D gm_cl (gm_ws z E fm dA h) H) (hS : va_S (gm_A z) s.heap H locs) (hL : gm_LR z E fm ls (gm_ml i) L) (hcz : s.heap.size + cells = z + h.length)
    (hrc : cells + (h'.length - h.length) ≤ R.cells) (hrs : slots + (gm_sl h' - gm_sl h) ≤ R.slots) (hI : gm_Snd D z E fm dA X d j 0 (gm_ent j as) [] h r h')
    (kk : ∀ (H1 : Heap) (locs1 : List Loc), va_P D gm_cl (gm_ws z E fm dA h') H1 → va_S (gm_A z) s.heap H1 locs1 → W p l e R s m args below meth c H1 locs1 (cells + (h'.length - h.length)) (slots + (gm_sl h' - gm_sl h)) Q (F0 m nx' ls ((r.map (gm_cv z E fm)).toList ++ rest.map (gm_cv z E fm)))) : W p l e R s m args below meth c H locs cells slots Q (F0 m pc ls (st.map (gm_cv z E fm))) := by
  sorry
end GM9
