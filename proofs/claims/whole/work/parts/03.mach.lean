-- THE MACHINE: cells in the order in which they were made; values are the kit's, a reference is a cell's number, or from 10000 on a thing outside (10000 script, 10001 ABOVE, 10010+k bytes of text k, 10030+k text k, 10050 the formatter)
abbrev gm_E : Type := (Nat × (List Int32 ⊕ List (Option Nat))) ⊕ (Nat × List Value)
abbrev gm_H : Type := List gm_E
abbrev gm_N : Type := (Nat × List Value × List Value × gm_H) ⊕ (Option Value ⊕ (Nat × Nat × List Value × List Value))
def gm_sb : List (List Int32) := [[], [99, 97, 116, 99, 104], [114, 115, 104], [100, 114, 121], [104, 115, 100], [102, 105, 110, 101], [98, 108]]
def gm_abv : List Int32 := [-1, 0, 0, 1, 2, 0]
/-- the kind of a field: 0 int, 1 boolean, 2 reference -/
def gm_kf (f : Nat) : Nat := match ((gm_tyl.getD (f / 100) (fun _ => .int)) (f % 100)) with
  | .int => 0
  | .boolean => 1
  | .object _ => 2
  | .array _ => 2
  | _ => 3
def gm_fo (f : Nat) (v : Value) : Bool := match v with
  | .int x => gm_kf f == 0 || (gm_kf f == 1 && (x == 0 || x == 1))
  | .ref a => gm_kf f == 2 && !(a == 10050)
  | _ => false
def gm_gf (h : gm_H) (a f : Nat) : Option Value :=
  if a < 10000 then (match h[a]? with
    | some (.inr (c, fs)) => if c = f / 100 then fs[f % 100]? else none
    | _ => none)
  else if f = 2000 ∧ 10030 ≤ a ∧ a < 10037 then some (.ref (a - 20))
  else if f = 2001 ∧ 10030 ≤ a ∧ a < 10037 then some (.int 0)
  else none
def gm_pf (h : gm_H) (a f : Nat) (v : Value) : Option gm_H :=
  if a < 10000 ∧ gm_fo f v = true then (match h[a]? with
    | some (.inr (c, fs)) => if c = f / 100 ∧ f % 100 < fs.length then some (h.set a (.inr (c, fs.set (f % 100) v))) else none
    | _ => none)
  else none
def gm_ix (xs : List Int32) (i : Int32) : Option Int32 := if i < 0 ∨ xs.length ≤ i.toNatClampNeg then none else some (xs.getD i.toNatClampNeg 0)
def gm_ial (X : List Int32) (h : gm_H) (a : Nat) (i : Int32) : Option Int32 :=
  if a < 10000 then (match h[a]? with
    | some (.inl (t, .inl xs)) => if t = 0 then gm_ix xs i else none
    | _ => none)
  else if a = 10000 then gm_ix X i
  else if a = 10001 then gm_ix gm_abv i
  else none
def gm_ias (h : gm_H) (a : Nat) (i v : Int32) : Option gm_H :=
  if a < 10000 then (match h[a]? with
    | some (.inl (t, .inl xs)) => if t = 0 ∧ ¬ (i < 0 ∨ xs.length ≤ i.toNatClampNeg) then some (h.set a (.inl (t, .inl (xs.set i.toNatClampNeg v)))) else none
    | _ => none)
  else none
def gm_bal (a : Nat) (i : Int32) : Option Int32 := if 10010 ≤ a ∧ a < 10017 then gm_ix (gm_sb.getD (a - 10010) []) i else none
def gm_rv (r : Option Nat) : Value := match r with
  | some a => .ref a
  | none => .null
def gm_aal (h : gm_H) (a : Nat) (i : Int32) : Option Value :=
  if a < 10000 then (match h[a]? with
    | some (.inl (t, .inr rs)) => if (i < 0 ∨ rs.length ≤ i.toNatClampNeg) ∨ t = 0 ∨ 7 ≤ t ∨ rs.getD i.toNatClampNeg none = some 10050 then none else some (gm_rv (rs.getD i.toNatClampNeg none))
    | _ => none)
  else none
/-- the class whose objects a row of kind t holds -/
def gm_tc (t : Nat) : Nat := [99, 1, 0, 4, 5, 99, 20].getD t 99
def gm_cls (h : gm_H) (a : Nat) : Nat :=
  if a < 10000 then (match h[a]? with
    | some (.inr (c, _)) => c
    | _ => 98)
  else if 10030 ≤ a ∧ a < 10037 then 20
  else 98
def gm_aas (h : gm_H) (a : Nat) (i : Int32) (r : Nat) : Option gm_H :=
  if a < 10000 then (match h[a]? with
    | some (.inl (t, .inr rs)) => if ¬ (i < 0 ∨ rs.length ≤ i.toNatClampNeg) ∧ gm_cls h r = gm_tc t then some (h.set a (.inl (t, .inr (rs.set i.toNatClampNeg (some r))))) else none
    | _ => none)
  else none
def gm_len (X : List Int32) (h : gm_H) (a : Nat) : Option Nat :=
  if a < 10000 then (match h[a]? with
    | some (.inl (t, .inl xs)) => if t = 0 then some xs.length else none
    | some (.inl (t, .inr rs)) => if t < 7 then some rs.length else none
    | _ => none)
  else if a = 10000 then some X.length
  else if a = 10001 then some gm_abv.length
  else if 10010 ≤ a ∧ a < 10017 then some (gm_sb.getD (a - 10010) []).length
  else none
def gm_df (t : FieldType) : Value := match t with
  | .object _ => .null
  | .array _ => .null
  | _ => .int 0
/-- a new object's fields -/
def gm_new (c : Nat) : List Value := (List.range ((gm_cl.getD c ("", TX0, 0)).2.2)).map (fun k => gm_df ((gm_tyl.getD c (fun _ => .int)) k))
def gm_cpy (xs ys : List Int32) (s d n : Nat) : List Int32 := (List.range ys.length).map (fun k => if d ≤ k ∧ k < d + n then xs.getD (s + (k - d)) 0 else ys.getD k 0)
def gm_acp (h : gm_H) (a : Nat) (s : Int32) (b : Nat) (d n : Int32) : Option gm_H :=
  if a < 10000 ∧ b < 10000 then (match h[a]?, h[b]? with
    | some (.inl (t, .inl xs)), some (.inl (u, .inl ys)) => if t = 0 ∧ u = 0 ∧ ¬ s < 0 ∧ ¬ d < 0 ∧ ¬ n < 0 ∧ s.toNatClampNeg + n.toNatClampNeg ≤ xs.length ∧ d.toNatClampNeg + n.toNatClampNeg ≤ ys.length then
        some (h.set b (.inl (u, .inl (gm_cpy xs ys s.toNatClampNeg d.toNatClampNeg n.toNatClampNeg)))) else none
    | _, _ => none)
  else none
def gm_sw (d : Int) (x : Int) : List (Int × Int) → Int
  | [] => d
  | (k, t) :: r => if x = k then t else gm_sw d x r
def gm_cat1 (v : Value) : Bool := match v with
  | .int _ => true
  | .ref _ => true
  | _ => false
def gm_ic (c : Jvm.ClassFile.Cond) (a b : Int32) : Bool := match c with
  | .eq => decide (a = b)
  | .ne => !decide (a = b)
  | .lt => decide (a < b)
  | .ge => decide (b ≤ a)
  | .gt => decide (b < a)
  | .le => decide (a ≤ b)
def gm_go (pc : Nat) (L st : List Value) (h : gm_H) : Option gm_N := some (.inl (pc, L, st, h))
/-- a call: how many arguments; what is left below them -/
def gm_cal (j nx : Nat) (st : List Value) : Option gm_N :=
  if gm_na j ≤ st.length ∧ ((st.drop (gm_na j)).map (fun v => v.category)).sum ≤ 8 ∧ (st.take (gm_na j)).all gm_cat1 = true then some (.inr (.inr (j, nx, (st.take (gm_na j)).reverse, st.drop (gm_na j)))) else none
def gm_st2 (f : Int32 → Int32 → Int32) (nx : Nat) (L st : List Value) (h : gm_H) : Option gm_N := match st with
  | .int b :: .int a :: st => gm_go nx L (.int (f a b) :: st) h
  | _ => none
def gm_st1 (f : Int32 → Int32) (nx : Nat) (L st : List Value) (h : gm_H) : Option gm_N := match st with
  | .int a :: st => gm_go nx L (.int (f a) :: st) h
  | _ => none
/-- one step of a method that answers rt: resolved instructions -/
def gm_stp (X : List Int32) (rt : Option FieldType) (op : Instr) (nx : Nat) (L st : List Value) (h : gm_H) : Option gm_N :=
  match op with
  | .iconst v => gm_go nx L (.int (Int32.ofInt v) :: st) h
  | .ldc k => if k < 7 then gm_go nx L (.ref (10030 + k) :: st) h else none
  | .iload k => (match L[k]? with
    | some (.int x) => gm_go nx L (.int x :: st) h
    | _ => none)
  | .aload k => (match L[k]? with
    | some (.ref x) => if x = 10050 then none else gm_go nx L (.ref x :: st) h
    | _ => none)
  | .istore k => (match st with
    | .int x :: st => if k < L.length then gm_go nx (L.set k (.int x)) st h else none
    | _ => none)
  | .astore k => (match st with
    | .ref x :: st => if k < L.length ∧ ¬ x = 10050 then gm_go nx (L.set k (.ref x)) st h else none
    | _ => none)
  | .iinc k v => (match L[k]? with
    | some (.int x) => gm_go nx (L.set k (.int (x + Int32.ofInt v))) st h
    | _ => none)
  | .iadd => gm_st2 (fun a b => a + b) nx L st h
  | .isub => gm_st2 (fun a b => a - b) nx L st h
  | .imul => gm_st2 (fun a b => a * b) nx L st h
  | .iand => gm_st2 (fun a b => a &&& b) nx L st h
  | .ishr => gm_st2 (fun a b => a >>> (b &&& 31)) nx L st h
  | .iushr => gm_st2 (fun a b => (a.toUInt32 >>> (b.toUInt32 &&& Int32.toUInt32 31)).toInt32) nx L st h
  | .idiv => (match st with
    | .int b :: .int a :: st => if b = 0 then none else gm_go nx L (.int (a / b) :: st) h
    | _ => none)
  | .irem => (match st with
    | .int b :: .int a :: st => if b = 0 then none else gm_go nx L (.int (a - a / b * b) :: st) h
    | _ => none)
  | .ineg => gm_st1 (fun a => -a) nx L st h
  | .i2s => gm_st1 (fun a => a.toInt16.toInt32) nx L st h
  | .i2c => gm_st1 (fun a => (a.toUInt32 % 65536).toInt32) nx L st h
  | .i2b => gm_st1 (fun a => a.toInt8.toInt32) nx L st h
  | .i2l => (match st with
    | .int a :: st => gm_go nx L (.long a.toInt64 :: st) h
    | _ => none)
  | .ladd => (match st with
    | .long b :: .long a :: st => gm_go nx L (.long (a + b) :: st) h
    | _ => none)
  | .lcmp => (match st with
    | .long b :: .long a :: st => gm_go nx L (.int (lg_cmp a b) :: st) h
    | _ => none)
  | .dup => (match st with
    | v :: st => if gm_cat1 v then gm_go nx L (v :: v :: st) h else none
    | _ => none)
  | .dup2 => (match st with
    | v :: w :: st => if gm_cat1 v && gm_cat1 w then gm_go nx L (v :: w :: v :: w :: st) h else none
    | _ => none)
  | .pop => (match st with
    | v :: st => if gm_cat1 v then gm_go nx L st h else none
    | _ => none)
  | .goto t => gm_go t.toNat L st h
  | .ifCond c t => (match st with
    | .int a :: st => gm_go (if gm_ic c a 0 then t.toNat else nx) L st h
    | _ => none)
  | .if_icmp c t => (match st with
    | .int b :: .int a :: st => gm_go (if gm_ic c a b then t.toNat else nx) L st h
    | _ => none)
  | .lookupswitch d ps => (match st with
    | .int a :: st => gm_go (gm_sw d a.toInt ps.toList).toNat L st h
    | _ => none)
  | .getfield f => (match st with
    | .ref a :: st => (match gm_gf h a f with
      | some v => gm_go nx L (v :: st) h
      | none => none)
    | _ => none)
  | .putfield f => (match st with
    | v :: .ref a :: st => (match gm_pf h a f v with
      | some h' => gm_go nx L st h'
      | none => none)
    | _ => none)
  | .putstatic f => (match st with
    | v :: .ref a :: st => (match gm_pf h a f v with
      | some h' => gm_go nx L st h'
      | none => none)
    | _ => none)
  | .getstatic k => if k = 1 then gm_go nx L (.ref 10001 :: st) h else if k = 2 then gm_go nx L (.int 1 :: st) h else if k = 3 then gm_go nx L (.ref 10050 :: st) h else none
  | .iaload => (match st with
    | .int i :: .ref a :: st => (match gm_ial X h a i with
      | some v => gm_go nx L (.int v :: st) h
      | none => none)
    | _ => none)
  | .baload => (match st with
    | .int i :: .ref a :: st => (match gm_bal a i with
      | some v => gm_go nx L (.int v :: st) h
      | none => none)
    | _ => none)
  | .iastore => (match st with
    | .int v :: .int i :: .ref a :: st => (match gm_ias h a i v with
      | some h' => gm_go nx L st h'
      | none => none)
    | _ => none)
  | .aaload => (match st with
    | .int i :: .ref a :: st => (match gm_aal h a i with
      | some v => gm_go nx L (v :: st) h
      | none => none)
    | _ => none)
  | .aastore => (match st with
    | .ref r :: .int i :: .ref a :: st => (match gm_aas h a i r with
      | some h' => gm_go nx L st h'
      | none => none)
    | _ => none)
  | .arraylength => (match st with
    | .ref a :: st => (match gm_len X h a with
      | some n => gm_go nx L (.int (Int32.ofNat n) :: st) h
      | none => none)
    | _ => none)
  | .new c => if c < 10 ∧ h.length < 9000 then gm_go nx L (.ref h.length :: st) (h ++ [.inr (c, gm_new c)]) else none
  | .newarray _ => (match st with
    | .int n :: st => if n < 0 ∨ 2000 < n ∨ 9000 ≤ h.length then none else gm_go nx L (.ref h.length :: st) (h ++ [.inl (0, .inl (List.replicate n.toNatClampNeg 0))])
    | _ => none)
  | .anewarray t => (match st with
    | .int n :: st => if n < 0 ∨ 2000 < n ∨ 9000 ≤ h.length then none else gm_go nx L (.ref h.length :: st) (h ++ [.inl (t, .inr (List.replicate n.toNatClampNeg none))])
    | _ => none)
  | .multianewarray _ _ => (match st with
    | .int k :: .int n :: st => if k = 96 ∧ n = 15 ∧ h.length < 9000 then gm_go nx L (.ref h.length :: st) ((h ++ [.inl (5, .inr ((List.range 15).map (fun i => some (h.length + 1 + i))))]) ++ List.replicate 15 (.inl (0, .inl (List.replicate 96 0)))) else none
    | _ => none)
  | .invokedynamic _ => (match st with
    | .int n :: .int d :: .ref b :: .int s :: .ref a :: st => if (st.map (fun v => v.category)).sum ≤ 8 then (match gm_acp h a s b d n with
      | some h' => gm_go nx L st h'
      | none => none) else none
    | _ => none)
  | .invokespecial j => if j = 9999 then (match st with
      | .ref a :: st => if a < 10000 ∧ (st.map (fun v => v.category)).sum ≤ 8 then gm_go nx L st h else none
      | _ => none)
    else (match (st.drop (gm_na j - 1)) with
      | .ref a :: _ => if a < 10000 then gm_cal j nx st else none
      | _ => none)
  | .invokestatic j => gm_cal j nx st
  | .invokeinterface j _ => gm_cal j nx st
  | .invokevirtual j => (match (st.drop (gm_na j - 1)) with
    | .ref a :: _ => if gm_cls h a = gm_mc j then gm_cal j nx st else none
    | _ => none)
  | .ireturn => (match st with
    | [.int v] => (match rt with
      | some ty => if narrow ty (.int v) = .int v then some (.inr (.inl (some (.int v)))) else none
      | none => none)
    | _ => none)
  | .return_ => (match st, rt with
    | [], none => some (.inr (.inl none))
    | _, _ => none)
  | _ => none
/-- the locals at a method's entry -/
def gm_ent (j : Nat) (as : List Value) : List Value := as ++ List.replicate (gm_ml j - as.length) (.retAddr 0)
def gm_run (X : List Int32) : Nat → Nat → Nat → Nat → List Value → List Value → gm_H → Option (Option Value × gm_H)
  | 0, _, _, _, _, _, _ => none
  | n + 1, d, i, pc, L, st, h =>
    match gm_at i pc with
    | none => none
    | some (op, nx) => match gm_stp X (gm_rt i) op nx L st h with
      | none => none
      | some (.inl (pc', L', st', h')) => gm_run X n d i pc' L' st' h'
      | some (.inr (.inl r)) => some (r, h)
      | some (.inr (.inr (j, nx', as, rest))) => match d with
        | 0 => none
        | d' + 1 => match gm_run X n d' j 0 (gm_ent j as) [] h with
          | none => none
          | some (r, h') => gm_run X n (d' + 1) i nx' L (r.toList ++ rest) h'
theorem gm_run_mono (X : List Int32) : ∀ (n d i pc : Nat) (L st : List Value) (h : gm_H) (x : Option Value × gm_H), gm_run X n d i pc L st h = some x → gm_run X (n + 1) d i pc L st h = some x := by
  intro n
  induction n with
  | zero => intro d i pc L st h x hx; simp [gm_run] at hx
  | succ n ih =>
    intro d i pc L st h x hx
    unfold gm_run at hx ⊢
    cases ha : gm_at i pc with
    | none => simp [ha] at hx
    | some q =>
      obtain ⟨op, nx⟩ := q
      simp only [ha] at hx ⊢
      cases hs : gm_stp X (gm_rt i) op nx L st h with
      | none => simp [hs] at hx
      | some q =>
        simp only [hs] at hx ⊢
        match q, hx with
        | .inl (pc', L', st', h'), hx => exact ih _ _ _ _ _ _ _ hx
        | .inr (.inl r), hx => exact hx
        | .inr (.inr (j, nx', as, rest)), hx =>
          cases d with
          | zero => simp at hx
          | succ d =>
            simp only at hx ⊢
            cases hc : gm_run X n d j 0 (gm_ent j as) [] h with
            | none => simp [hc] at hx
            | some y =>
              obtain ⟨r, h'⟩ := y
              simp only [hc] at hx
              rw [ih _ _ _ _ _ _ _ hc]
              exact ih _ _ _ _ _ _ _ hx
theorem gm_run_le (X : List Int32) {n k d i pc : Nat} {L st : List Value} {h : gm_H} {x : Option Value × gm_H} (hk : n ≤ k) (hx : gm_run X n d i pc L st h = some x) : gm_run X k d i pc L st h = some x := by
  induction k with
  | zero => cases Nat.le_zero.mp hk; exact hx
  | succ k ih =>
    rcases Nat.lt_or_ge n (k + 1) with q | q
    · exact gm_run_mono X _ _ _ _ _ _ _ _ (ih (Nat.le_of_lt_succ q))
    · cases Nat.le_antisymm hk q; exact hx
theorem gm_run_one (X : List Int32) {n k d i pc : Nat} {L st : List Value} {h : gm_H} {x y : Option Value × gm_H} (hx : gm_run X n d i pc L st h = some x) (hy : gm_run X k d i pc L st h = some y) : x = y := by
  have h1 := gm_run_le X (Nat.le_max_left n k) hx
  have h2 := gm_run_le X (Nat.le_max_right n k) hy
  exact Option.some.inj (h1.symm.trans h2)
/-- what comes of a frame: no fuel -/
noncomputable def gm_ev (X : List Int32) (d i pc : Nat) (L st : List Value) (h : gm_H) : Option (Option Value × gm_H) :=
  haveI := Classical.propDecidable; if hx : ∃ x n, gm_run X n d i pc L st h = some x then some (Classical.choose hx) else none
theorem gm_ev_iff (X : List Int32) {d i pc : Nat} {L st : List Value} {h : gm_H} {x : Option Value × gm_H} : gm_ev X d i pc L st h = some x ↔ ∃ n, gm_run X n d i pc L st h = some x := by
  unfold gm_ev
  constructor
  · intro q
    split at q
    · rename_i hx
      obtain ⟨n, hn⟩ := Classical.choose_spec hx
      exact ⟨n, by rw [hn]; exact q⟩
    · cases q
  · rintro ⟨n, hn⟩
    have hx : ∃ x n, gm_run X n d i pc L st h = some x := ⟨x, n, hn⟩
    rw [dif_pos hx]
    obtain ⟨k, hk⟩ := Classical.choose_spec hx
    rw [gm_run_one X hk hn]
theorem gm_ev_ext (X : List Int32) {d i pc d' i' pc' : Nat} {L st L' st' : List Value} {h h' : gm_H} (q : ∀ x, (∃ n, gm_run X n d i pc L st h = some x) ↔ (∃ n, gm_run X n d' i' pc' L' st' h' = some x)) : gm_ev X d i pc L st h = gm_ev X d' i' pc' L' st' h' := by
  apply Option.ext
  intro x
  rw [gm_ev_iff, gm_ev_iff]
  exact q x
theorem gm_ev_next (X : List Int32) {d i pc nx pc' : Nat} {op : Instr} {L st L' st' : List Value} {h h' : gm_H} (ha : gm_at i pc = some (op, nx)) (hs : gm_stp X (gm_rt i) op nx L st h = some (.inl (pc', L', st', h'))) : gm_ev X d i pc L st h = gm_ev X d i pc' L' st' h' := by
  refine gm_ev_ext X fun x => ⟨?_, ?_⟩
  · rintro ⟨n, hn⟩
    cases n with
    | zero => simp [gm_run] at hn
    | succ n =>
      unfold gm_run at hn
      simp only [ha, hs] at hn
      exact ⟨n, hn⟩
  · rintro ⟨n, hn⟩
    refine ⟨n + 1, ?_⟩
    unfold gm_run
    simp only [ha, hs]
    exact hn
theorem gm_ev_stop (X : List Int32) {d i pc nx : Nat} {op : Instr} {L st : List Value} {h : gm_H} (ha : gm_at i pc = some (op, nx)) (hs : gm_stp X (gm_rt i) op nx L st h = none) : gm_ev X d i pc L st h = none := by
  apply Option.ext
  intro x
  rw [gm_ev_iff]
  constructor
  · rintro ⟨n, hn⟩
    cases n with
    | zero => simp [gm_run] at hn
    | succ n =>
      unfold gm_run at hn
      simp [ha, hs] at hn
  · intro q; cases q
theorem gm_ev_ret (X : List Int32) {d i pc nx : Nat} {op : Instr} {L st : List Value} {h : gm_H} {r : Option Value} (ha : gm_at i pc = some (op, nx)) (hs : gm_stp X (gm_rt i) op nx L st h = some (.inr (.inl r))) : gm_ev X d i pc L st h = some (r, h) := by
  rw [gm_ev_iff]
  refine ⟨1, ?_⟩
  unfold gm_run
  simp [ha, hs]
noncomputable def gm_cl' (X : List Int32) (d j : Nat) (as : List Value) (h : gm_H) : Option (Option Value × gm_H) := gm_ev X d j 0 (gm_ent j as) [] h
theorem gm_ev_call (X : List Int32) {d i pc nx j nx' : Nat} {op : Instr} {L st as rest : List Value} {h : gm_H} (ha : gm_at i pc = some (op, nx)) (hs : gm_stp X (gm_rt i) op nx L st h = some (.inr (.inr (j, nx', as, rest)))) : gm_ev X (d + 1) i pc L st h = (gm_cl' X d j as h).bind (fun q => gm_ev X (d + 1) i nx' L (q.1.toList ++ rest) q.2) := by
  apply Option.ext
  intro x
  rw [gm_ev_iff, Option.bind_eq_some_iff]
  constructor
  · rintro ⟨n, hn⟩
    cases n with
    | zero => simp [gm_run] at hn
    | succ n =>
      unfold gm_run at hn
      simp only [ha, hs] at hn
      cases hc : gm_run X n d j 0 (gm_ent j as) [] h with
      | none => simp [hc] at hn
      | some y =>
        simp only [hc] at hn
        exact ⟨y, (gm_ev_iff X).mpr ⟨n, hc⟩, (gm_ev_iff X).mpr ⟨n, hn⟩⟩
  · rintro ⟨y, h1, h2⟩
    obtain ⟨n1, h1⟩ := (gm_ev_iff X).mp h1
    obtain ⟨n2, h2⟩ := (gm_ev_iff X).mp h2
    refine ⟨max n1 n2 + 1, ?_⟩
    unfold gm_run
    simp only [ha, hs]
    rw [gm_run_le X (Nat.le_max_left n1 n2) h1]
    exact gm_run_le X (Nat.le_max_right n1 n2) h2
