-- reading and writing cells of the fixed shape
def gt_set (u : gt_M) (b o : Nat) (x : Int32) : gt_M := fun b' o' => if b' = b ∧ o' = o then x else u b' o'
theorem gt_set_eq {u : gt_M} {b o : Nat} {x : Int32} : gt_set u b o x b o = x := if_pos ⟨rfl, rfl⟩
theorem gt_set_ne {u : gt_M} {b o b' o' : Nat} {x : Int32} (h : ¬ (b' = b ∧ o' = o)) : gt_set u b o x b' o' = u b' o' := if_neg h
theorem gt_set_nb {u : gt_M} {b o b' o' : Nat} {x : Int32} (h : b' ≠ b) : gt_set u b o x b' o' = u b' o' := if_neg (fun y => h y.1)
theorem gt_set_no {u : gt_M} {b o o' : Nat} {x : Int32} (h : o' ≠ o) : gt_set u b o x b o' = u b o' := if_neg (fun y => h y.2)
def gt_cpy (u : gt_M) (b1 p b2 q n : Nat) : gt_M := fun b o => if b = b2 ∧ q ≤ o ∧ o < q + n then u b1 (p + (o - q)) else u b o
def gt_own (q : gt_D) (b x : Nat) : Prop := (gt_rg q).1 = b ∧ (gt_rg q).2.1 ≤ x ∧ x < (gt_rg q).2.1 + (gt_rg q).2.2
theorem gt_dis_own {q r : gt_D} {b x : Nat} (h : gt_dis q r = true) (hq : gt_own q b x) (hr : gt_own r b x) : False := by
  simp only [gt_dis, Bool.or_eq_true, Bool.not_eq_true', beq_eq_false_iff_ne, decide_eq_true_eq] at h
  obtain ⟨a1, a2, a3⟩ := hq
  obtain ⟨b1, b2, b3⟩ := hr
  rcases h with h | h | h
  · exact h (a1.trans b1.symm)
  · omega
  · omega
theorem gt_apart_ok : ∀ {l : List gt_D}, gt_apart l = true → ∀ {i j : Nat} {q r : gt_D}, i < j → l[i]? = some q → l[j]? = some r → gt_dis q r = true
  | [], _, i, j, q, r, _, hi, _ => by simp at hi
  | a :: l, h, i, j, q, r, hij, hi, hj => by
    simp only [gt_apart, Bool.and_eq_true] at h
    cases j with
    | zero => omega
    | succ j =>
      have hj : l[j]? = some r := by simpa using hj
      cases i with
      | zero =>
        cases hi
        exact List.all_eq_true.mp h.1 r (List.mem_of_getElem? hj)
      | succ i => exact gt_apart_ok h.2 (i := i) (j := j) (by omega) (by simpa using hi) hj
theorem gt_one {i j : Nat} {q r : gt_D} {b x : Nat} (hi : gt_t[i]? = some q) (hj : gt_t[j]? = some r) (hij : i ≠ j) (hq : gt_own q b x) : ¬ gt_own r b x := by
  intro hr
  rcases Nat.lt_or_ge i j with y | y
  · exact gt_dis_own (gt_apart_ok gt_apart_t y hi hj) hq hr
  · exact gt_dis_own (gt_apart_ok gt_apart_t (by omega) hj hi) hr hq
theorem gt_foldl_max : ∀ (l : List Nat) (a : Nat), a ≤ l.foldl max a ∧ ∀ x ∈ l, x ≤ l.foldl max a
  | [], a => ⟨Nat.le_refl _, fun x h => by cases h⟩
  | b :: l, a => by
    obtain ⟨h1, h2⟩ := gt_foldl_max l (max a b)
    refine ⟨Nat.le_trans (Nat.le_max_left a b) h1, fun x hx => ?_⟩
    rcases List.mem_cons.mp hx with y | y
    · rw [y]; exact Nat.le_trans (Nat.le_max_right a b) h1
    · exact h2 x y
theorem gt_own_f {c b o : Nat} {fs : List (Value ⊕ Nat)} {j : Nat} (hj : (.inr j : Value ⊕ Nat) ∈ fs) : gt_own (.inl (c, b, o, fs)) b (o + (if j < 1000 then j else j - 1000)) := by
  refine ⟨rfl, Nat.le_add_right _ _, ?_⟩
  have h := (gt_foldl_max (fs.map (fun f => match f with
    | .inl _ => 0
    | .inr j => (if j < 1000 then j else j - 1000) + 1)) 0).2 _ (List.mem_map.mpr ⟨_, hj, rfl⟩)
  show o + _ < o + (fs.map _).foldl max 0
  have h : (if j < 1000 then j else j - 1000) + 1 ≤ _ := h
  exact Nat.add_lt_add_left (Nat.lt_of_succ_le h) o
/-- a cell is as it was if its places are -/
theorem gt_in_same {u u' : gt_M} {q : gt_D} (h : ∀ b x, gt_own q b x → u' b x = u b x) : gt_in u' q = gt_in u q := by
  match q, h with
  | .inl (c, b, o, fs), h =>
    show (.inr (c, fs.map (gt_fv u' b o)) : gm_E) = .inr (c, fs.map (gt_fv u b o))
    congr 2
    apply List.map_congr_left
    intro f hf
    cases f with
    | inl v => rfl
    | inr j =>
      have y := h _ _ (gt_own_f (c := c) (b := b) (o := o) hf)
      unfold gt_fv
      dsimp only
      split
      · rename_i hj; rw [if_pos hj] at y; rw [y]
      · rename_i hj; rw [if_neg hj] at y; rw [y]
  | .inr (.inl (b, o, n)), h =>
    show (.inl (0, .inl ((List.range n).map (fun k => u' b (o + k)))) : gm_E) = .inl (0, .inl ((List.range n).map (fun k => u b (o + k))))
    congr 3
    apply List.map_congr_left
    intro k hk
    exact h b (o + k) ⟨rfl, Nat.le_add_right _ _, Nat.add_lt_add_left (List.mem_range.mp hk) o⟩
  | .inr (.inr (t, rs)), h => rfl
theorem gt_updL {t : List gt_D} (hone : ∀ {i j : Nat} {q r : gt_D} {b x : Nat}, t[i]? = some q → t[j]? = some r → i ≠ j → gt_own q b x → ¬ gt_own r b x) {u u' : gt_M} {k : Nat} {q : gt_D} (hk : t[k]? = some q) (h : ∀ b x, ¬ gt_own q b x → u' b x = u b x) : (t.map (gt_in u)).set k (gt_in u' q) = t.map (gt_in u') := by
  apply List.ext_getElem?
  intro j
  rw [List.getElem?_map]
  by_cases hj : j = k
  · subst hj
    have hl := (List.getElem?_eq_some_iff.mp hk).1
    rw [List.getElem?_set_self (by rw [List.length_map]; exact hl), hk, Option.map_some]
  · rw [List.getElem?_set_ne (Ne.symm hj), List.getElem?_map]
    cases hr : t[j]? with
    | none => rw [Option.map_none, Option.map_none]
    | some r =>
      show some (gt_in u r) = some (gt_in u' r)
      rw [gt_in_same (u := u) (u' := u') (fun b x hb => h b x (hone hr hk hj hb))]
theorem gt_upd {u u' : gt_M} {k : Nat} {q : gt_D} (hk : gt_t[k]? = some q) (h : ∀ b x, ¬ gt_own q b x → u' b x = u b x) : (gt_h u).set k (gt_in u' q) = gt_h u' := gt_updL (t := gt_t) gt_one hk h
theorem gt_get {u : gt_M} {k : Nat} {q : gt_D} (hk : gt_t[k]? = some q) : (gt_h u)[k]? = some (gt_in u q) := by
  unfold gt_h
  rw [List.getElem?_map, hk]
  rfl
theorem gt_lt {k : Nat} {q : gt_D} (hk : gt_t[k]? = some q) : k < 10000 := by
  have hl := (List.getElem?_eq_some_iff.mp hk).1
  have : gt_t.length = 133 := by decide +kernel
  omega
theorem gt_gf {u : gt_M} {k c b o f : Nat} {fs : List (Value ⊕ Nat)} {v : Value ⊕ Nat} (hk : gt_t[k]? = some (.inl (c, b, o, fs))) (hc : c = f / 100) (hf : fs[f % 100]? = some v) : gm_gf (gt_h u) k f = some (gt_fv u b o v) := by
  unfold gm_gf
  rw [if_pos (gt_lt hk), gt_get hk]
  show (if c = f / 100 then (fs.map (gt_fv u b o))[f % 100]? else none) = _
  rw [if_pos hc, List.getElem?_map, hf]
  rfl
theorem gt_cls {u : gt_M} {k c b o : Nat} {fs : List (Value ⊕ Nat)} (hk : gt_t[k]? = some (.inl (c, b, o, fs))) : gm_cls (gt_h u) k = c := by
  unfold gm_cls
  rw [if_pos (gt_lt hk), gt_get hk]
  rfl
/-- the fields of an object lie apart -/
def gt_fd : List (Value ⊕ Nat) → Bool
  | [] => true
  | .inl _ :: l => gt_fd l
  | .inr j :: l => l.all (fun f => match f with
    | .inl _ => true
    | .inr k => !((if j < 1000 then j else j - 1000) == (if k < 1000 then k else k - 1000))) && gt_fd l
def gt_fdq (q : gt_D) : Bool := match q with
  | .inl (_, _, _, fs) => gt_fd fs
  | _ => true
theorem gt_fdL {t : List gt_D} (h : t.all gt_fdq = true) {k c b o : Nat} {fs : List (Value ⊕ Nat)} (hk : t[k]? = some (.inl (c, b, o, fs))) : gt_fd fs = true := List.all_eq_true.mp h _ (List.mem_of_getElem? hk)
theorem gt_fd_t : gt_t.all gt_fdq = true := by decide +kernel
theorem gt_fd_ok : ∀ {l : List (Value ⊕ Nat)}, gt_fd l = true → ∀ {i k a b : Nat}, i < k → l[i]? = some (.inr a) → l[k]? = some (.inr b) → (if a < 1000 then a else a - 1000) ≠ (if b < 1000 then b else b - 1000)
  | [], _, i, k, a, b, _, hi, _ => by simp at hi
  | f :: l, h, i, k, a, b, hik, hi, hk => by
    cases k with
    | zero => omega
    | succ k =>
      have hk : l[k]? = some (.inr b) := by simpa using hk
      cases i with
      | zero =>
        cases hi
        simp only [gt_fd, Bool.and_eq_true] at h
        have y := List.all_eq_true.mp h.1 _ (List.mem_of_getElem? hk)
        simpa using y
      | succ i =>
        have hl : gt_fd l = true := by
          cases f with
          | inl v => exact h
          | inr j => simp only [gt_fd, Bool.and_eq_true] at h; exact h.2
        exact gt_fd_ok hl (i := i) (k := k) (by omega) (by simpa using hi) hk
theorem gt_pf_any {u u' : gt_M} {k c b o f j : Nat} {fs : List (Value ⊕ Nat)} {v : Value} (hk : gt_t[k]? = some (.inl (c, b, o, fs))) (hc : c = f / 100) (hf : fs[f % 100]? = some (.inr j)) (ho : gm_fo f v = true) (hv : gt_fv u' b o (.inr j) = v) (hu : ∀ b' x, ¬ (b' = b ∧ x = o + (if j < 1000 then j else j - 1000)) → u' b' x = u b' x) : gm_pf (gt_h u) k f v = some (gt_h u') := by
  unfold gm_pf
  rw [if_pos ⟨gt_lt hk, ho⟩, gt_get hk]
  have hl := (List.getElem?_eq_some_iff.mp hf).1
  show (if c = f / 100 ∧ f % 100 < (fs.map (gt_fv u b o)).length then some ((gt_h u).set k (.inr (c, (fs.map (gt_fv u b o)).set (f % 100) v))) else none) = _
  rw [if_pos ⟨hc, by rw [List.length_map]; exact hl⟩]
  have hfd : gt_fd fs = true := gt_fdL gt_fd_t hk
  have e1 : (.inr (c, (fs.map (gt_fv u b o)).set (f % 100) v) : gm_E) = gt_in u' (.inl (c, b, o, fs)) := by
    show _ = (.inr (c, fs.map (gt_fv u' b o)) : gm_E)
    congr 2
    apply List.ext_getElem?
    intro n
    rw [List.getElem?_map]
    by_cases hn : n = f % 100
    · subst hn
      rw [List.getElem?_set_self (by rw [List.length_map]; exact hl), hf]
      show some v = some (gt_fv u' b o (.inr j))
      rw [hv]
    · rw [List.getElem?_set_ne (Ne.symm hn), List.getElem?_map]
      cases hg : fs[n]? with
      | none => rw [Option.map_none, Option.map_none]
      | some g =>
        cases g with
        | inl w =>
          rw [Option.map_some, Option.map_some]
          show some w = some w
          rfl
        | inr a =>
          have hne : (if a < 1000 then a else a - 1000) ≠ (if j < 1000 then j else j - 1000) := by
            rcases Nat.lt_or_ge n (f % 100) with y | y
            · exact gt_fd_ok hfd y hg hf
            · exact (gt_fd_ok hfd (by omega) hf hg).symm
          have y := hu b (o + (if a < 1000 then a else a - 1000)) (fun z => hne (by omega))
          show some (gt_fv u b o (.inr a)) = some (gt_fv u' b o (.inr a))
          unfold gt_fv
          dsimp only
          split
          · rename_i ha; rw [if_pos ha] at y; rw [y]
          · rename_i ha; rw [if_neg ha] at y; rw [y]
  rw [e1, gt_upd hk (fun b' x hx => hu b' x (fun y => hx ?_))]
  rw [y.1, y.2]
  exact gt_own_f (List.mem_of_getElem? hf)
theorem gt_pf {u : gt_M} {k c b o f j : Nat} {fs : List (Value ⊕ Nat)} {x : Int32} (hk : gt_t[k]? = some (.inl (c, b, o, fs))) (hc : c = f / 100) (hf : fs[f % 100]? = some (.inr j)) (hj : j < 1000) (ho : gm_fo f (.int x) = true) : gm_pf (gt_h u) k f (.int x) = some (gt_h (gt_set u b (o + j) x)) := by
  refine gt_pf_any hk hc hf ho ?_ ?_
  · unfold gt_fv
    dsimp only
    rw [if_pos hj, gt_set_eq]
  · rw [if_pos hj]
    intro b' x' y
    exact gt_set_ne y
theorem gt_pfS {u : gt_M} {k c b o f j n : Nat} {fs : List (Value ⊕ Nat)} (hk : gt_t[k]? = some (.inl (c, b, o, fs))) (hc : c = f / 100) (hf : fs[f % 100]? = some (.inr (1000 + j))) (hn : n < 7) (ho : gm_fo f (.ref (10030 + n)) = true) : gm_pf (gt_h u) k f (.ref (10030 + n)) = some (gt_h (gt_set u b (o + j) (nI n))) := by
  refine gt_pf_any hk hc hf ho ?_ ?_
  · unfold gt_fv
    dsimp only
    rw [if_neg (by omega), Nat.add_sub_cancel_left, gt_set_eq, nI_clamp (by omega)]
  · rw [if_neg (by omega), Nat.add_sub_cancel_left]
    intro b' x' y
    exact gt_set_ne y
theorem gt_row (u : gt_M) (b o n i : Nat) (hi : i < n) : ((List.range n).map (fun k => u b (o + k))).getD i 0 = u b (o + i) := by
  rw [List.getD_eq_getElem?_getD, List.getElem?_map, List.getElem?_range hi]
  rfl
theorem gt_ial {X : List Int32} {u : gt_M} {k b o n i : Nat} (hk : gt_t[k]? = some (.inr (.inl (b, o, n)))) (hi : i < n) (hn : n < 2 ^ 31) : gm_ial X (gt_h u) k (nI i) = some (u b (o + i)) := by
  unfold gm_ial
  rw [if_pos (gt_lt hk), gt_get hk]
  show (if (0 : Nat) = 0 then gm_ix ((List.range n).map (fun k => u b (o + k))) (nI i) else none) = _
  rw [if_pos rfl]
  unfold gm_ix
  rw [if_neg (by rw [List.length_map, List.length_range]; exact nI_in hi hn), nI_clamp (by omega), gt_row _ _ _ _ _ hi]
theorem gt_ias {u : gt_M} {k b o n i : Nat} {x : Int32} (hk : gt_t[k]? = some (.inr (.inl (b, o, n)))) (hi : i < n) (hn : n < 2 ^ 31) : gm_ias (gt_h u) k (nI i) x = some (gt_h (gt_set u b (o + i) x)) := by
  unfold gm_ias
  rw [if_pos (gt_lt hk), gt_get hk]
  show (if (0 : Nat) = 0 ∧ ¬ (nI i < 0 ∨ ((List.range n).map (fun k => u b (o + k))).length ≤ (nI i).toNatClampNeg) then some ((gt_h u).set k (.inl (0, .inl (((List.range n).map (fun k => u b (o + k))).set (nI i).toNatClampNeg x)))) else none) = _
  rw [if_pos ⟨rfl, by rw [List.length_map, List.length_range]; exact nI_in hi hn⟩, nI_clamp (by omega)]
  have e1 : (.inl (0, .inl (((List.range n).map (fun k => u b (o + k))).set i x)) : gm_E) = gt_in (gt_set u b (o + i) x) (.inr (.inl (b, o, n))) := by
    show _ = (.inl (0, .inl ((List.range n).map (fun k => gt_set u b (o + i) x b (o + k)))) : gm_E)
    congr 3
    apply List.ext_getElem?
    intro j
    rw [List.getElem?_map]
    by_cases hj : j = i
    · subst hj
      rw [List.getElem?_set_self (by simpa using hi), List.getElem?_range hi]
      show some x = some (gt_set u b (o + j) x b (o + j))
      rw [gt_set_eq]
    · rw [List.getElem?_set_ne (Ne.symm hj), List.getElem?_map]
      cases hr : (List.range n)[j]? with
      | none => rfl
      | some a =>
        show some (u b (o + a)) = some (gt_set u b (o + i) x b (o + a))
        have ha : a = j := by
          obtain ⟨hl, hv⟩ := List.getElem?_eq_some_iff.mp hr
          rw [← hv, List.getElem_range]
        rw [gt_set_no (by omega)]
  rw [e1, gt_upd (u := u) (u' := gt_set u b (o + i) x) hk (fun b' x' hx => gt_set_ne (fun y => hx ⟨y.1.symm, by show o ≤ x'; omega, by show x' < o + n; omega⟩))]
theorem gt_aal {u : gt_M} {k t i r : Nat} {rs : List (Option Nat)} (hk : gt_t[k]? = some (.inr (.inr (t, rs)))) (hi : rs[i]? = some (some r)) (ht : 0 < t ∧ t < 7) (hr : ¬ r = 10050) (hn : rs.length < 2 ^ 31) : gm_aal (gt_h u) k (nI i) = some (.ref r) := by
  have hl := (List.getElem?_eq_some_iff.mp hi).1
  unfold gm_aal
  rw [if_pos (gt_lt hk), gt_get hk]
  have hg : rs.getD i none = some r := by rw [List.getD_eq_getElem?_getD, hi]; rfl
  show (if (nI i < 0 ∨ rs.length ≤ (nI i).toNatClampNeg) ∨ t = 0 ∨ 7 ≤ t ∨ rs.getD (nI i).toNatClampNeg none = some 10050 then none else some (gm_rv (rs.getD (nI i).toNatClampNeg none))) = _
  rw [nI_clamp (by omega), hg, if_neg]
  · rfl
  · intro y
    rcases y with y | y | y | y
    · exact nI_in hl hn (by rw [nI_clamp (by omega)]; exact y)
    · omega
    · omega
    · exact hr (Option.some.inj y)
