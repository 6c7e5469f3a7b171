-- blocks: straight stretches of code, their ends in jumps, calls as equations
def gm_isJ (op : Instr) : Bool := match op with
  | .goto _ => true
  | .ifCond _ _ => true
  | .if_icmp _ _ => true
  | .lookupswitch _ _ => true
  | _ => false
def gm_nxm (nx : Nat) (q : gm_N) : gm_N := match q with
  | .inl (_, L', st', h') => .inl (nx, L', st', h')
  | .inr (.inl r) => .inr (.inl r)
  | .inr (.inr (j, _, as, rest)) => .inr (.inr (j, nx, as, rest))
theorem gm_go_nx {nx : Nat} {L st : List Value} {h : gm_H} : gm_go nx L st h = (gm_go 0 L st h).map (gm_nxm nx) := rfl
theorem gm_cal_nx {j nx : Nat} {st : List Value} : gm_cal j nx st = (gm_cal j 0 st).map (gm_nxm nx) := by
  unfold gm_cal
  split <;> rfl
set_option maxHeartbeats 4000000 in
theorem gm_stp_nx {X : List Int32} {rt : Option FieldType} {op : Instr} {L st : List Value} {h : gm_H} (hj : gm_isJ op = false) (nx : Nat) : gm_stp X rt op nx L st h = (gm_stp X rt op 0 L st h).map (gm_nxm nx) := by
  cases op with
  | goto t => cases hj
  | ifCond c t => cases hj
  | if_icmp c t => cases hj
  | lookupswitch d ps => cases hj
  | _ =>
    first
      | rfl
      | (simp only [gm_stp, gm_st1, gm_st2]; first | exact gm_go_nx | exact gm_cal_nx | ((repeat' split) <;> first | rfl | exact gm_go_nx | exact gm_cal_nx | (simp_all; done)))
noncomputable def gm_b1 (X : List Int32) (d i : Nat) (op : Instr) (L st : List Value) (h : gm_H) (K : List Value → List Value → gm_H → Option (Option Value × gm_H)) : Option (Option Value × gm_H) :=
  match op with
  | .goto t => gm_ev X d i t.toNat L st h
  | .ifCond c t => (match st with
    | .int a :: st => if gm_ic c a 0 then gm_ev X d i t.toNat L st h else K L st h
    | _ => none)
  | .if_icmp c t => (match st with
    | .int b :: .int a :: st => if gm_ic c a b then gm_ev X d i t.toNat L st h else K L st h
    | _ => none)
  | .lookupswitch dd ps => (match st with
    | .int a :: st => gm_ev X d i (gm_sw dd a.toInt ps.toList).toNat L st h
    | _ => none)
  | op => match gm_stp X (gm_rt i) op 0 L st h with
    | none => none
    | some (.inl (_, L', st', h')) => K L' st' h'
    | some (.inr (.inl r)) => some (r, h)
    | some (.inr (.inr (j, _, as, rest))) => match d with
      | 0 => none
      | d' + 1 => (gm_cl' X d' j as h).bind (fun q => K L (q.1.toList ++ rest) q.2)
noncomputable def gm_bl (X : List Int32) (d i e : Nat) : List Instr → List Value → List Value → gm_H → Option (Option Value × gm_H)
  | [], L, st, h => gm_ev X d i e L st h
  | op :: l, L, st, h => gm_b1 X d i op L st h (fun L st h => gm_bl X d i e l L st h)
/-- the code of method i from pc to e is l -/
def gm_seq (i e : Nat) : Nat → List Instr → Bool
  | pc, [] => pc == e
  | pc, op :: l => match gm_at i pc with
    | some (op', nx) => decide (op' = op) && gm_seq i e nx l
    | none => false
theorem gm_bl_ok {X : List Int32} {d i e : Nat} : ∀ {l : List Instr} {pc : Nat} {L st : List Value} {h : gm_H}, gm_seq i e pc l = true → gm_ev X d i pc L st h = gm_bl X d i e l L st h
  | [], pc, L, st, h, hq => by
    simp only [gm_seq, beq_iff_eq] at hq
    rw [hq]
    rfl
  | op :: l, pc, L, st, h, hq => by
    unfold gm_seq at hq
    cases ha : gm_at i pc with
    | none => simp [ha] at hq
    | some q =>
      obtain ⟨op', nx⟩ := q
      simp only [ha, Bool.and_eq_true, decide_eq_true_eq] at hq
      obtain ⟨rfl, hq⟩ := hq
      have ih : ∀ {L st : List Value} {h : gm_H}, gm_ev X d i nx L st h = gm_bl X d i e l L st h := fun {L st h} => gm_bl_ok hq
      unfold gm_bl
      cases hj : gm_isJ op' with
      | false =>
        have hb : gm_b1 X d i op' L st h (fun L st h => gm_bl X d i e l L st h) = (match gm_stp X (gm_rt i) op' 0 L st h with
            | none => none
            | some (.inl (_, L', st', h')) => gm_bl X d i e l L' st' h'
            | some (.inr (.inl r)) => some (r, h)
            | some (.inr (.inr (j, _, as, rest))) => match d with
              | 0 => none
              | d' + 1 => (gm_cl' X d' j as h).bind (fun q => gm_bl X (d' + 1) i e l L (q.1.toList ++ rest) q.2)) := by
          cases op' <;> first | (cases hj; done) | (cases d <;> rfl)
        rw [hb]
        have hnx := gm_stp_nx (X := X) (rt := gm_rt i) (L := L) (st := st) (h := h) hj nx
        cases hs : gm_stp X (gm_rt i) op' 0 L st h with
        | none =>
          rw [hs] at hnx
          exact gm_ev_stop X ha hnx
        | some q =>
          rw [hs] at hnx
          match q, hnx with
          | .inl (p', L', st', h'), hnx =>
            rw [gm_ev_next X ha hnx]
            exact ih
          | .inr (.inl r), hnx => exact gm_ev_ret X ha hnx
          | .inr (.inr (j, p', as, rest)), hnx =>
            cases d with
            | zero =>
              apply Option.ext
              intro x
              rw [gm_ev_iff]
              constructor
              · rintro ⟨n, hn⟩
                cases n with
                | zero => simp [gm_run] at hn
                | succ n =>
                  unfold gm_run at hn
                  simp [ha, hnx, gm_nxm] at hn
              · intro y; cases y
            | succ d =>
              rw [gm_ev_call X ha hnx]
              congr 1
              funext q
              exact ih
      | true =>
        cases op' with
        | goto t => exact gm_ev_next X ha rfl
        | ifCond c t =>
          simp only [gm_b1]
          split
          · rename_i a st0
            rw [gm_ev_next X ha (show gm_stp X (gm_rt i) (.ifCond c t) nx L (.int a :: st0) h = some (.inl (if gm_ic c a 0 then t.toNat else nx, L, st0, h)) from rfl)]
            split
            · rfl
            · exact ih
          · rename_i hn
            refine gm_ev_stop X ha ?_
            simp only [gm_stp]
        | if_icmp c t =>
          simp only [gm_b1]
          split
          · rename_i b a st0
            rw [gm_ev_next X ha (show gm_stp X (gm_rt i) (.if_icmp c t) nx L (.int b :: .int a :: st0) h = some (.inl (if gm_ic c a b then t.toNat else nx, L, st0, h)) from rfl)]
            split
            · rfl
            · exact ih
          · rename_i hn
            refine gm_ev_stop X ha ?_
            simp only [gm_stp]
        | lookupswitch dd ps =>
          simp only [gm_b1]
          split
          · exact gm_ev_next X ha rfl
          · rename_i hn
            refine gm_ev_stop X ha ?_
            simp only [gm_stp]
        | _ => cases hj
