-- the cells behind both constructors: their shape stays; what changes are numbers at (block, place)
abbrev gt_D : Type := (Nat × Nat × Nat × List (Value ⊕ Nat)) ⊕ ((Nat × Nat × Nat) ⊕ (Nat × List (Option Nat)))
abbrev gt_M : Type := Nat → Nat → Int32
def gt_fv (u : gt_M) (b o : Nat) (f : Value ⊕ Nat) : Value := match f with
  | .inl v => v
  | .inr j => if j < 1000 then .int (u b (o + j)) else .ref (10030 + (u b (o + (j - 1000))).toNatClampNeg)
def gt_in (u : gt_M) (q : gt_D) : gm_E := match q with
  | .inl (c, b, o, fs) => .inr (c, fs.map (gt_fv u b o))
  | .inr (.inl (b, o, n)) => .inl (0, .inl ((List.range n).map (fun k => u b (o + k))))
  | .inr (.inr (t, rs)) => .inl (t, .inr rs)
def gt_t0 : List gt_D := [.inl (8, 10, 0, [.inl (.ref 1), .inl (.ref 22), .inl (.ref 42), .inl (.ref 62), .inl (.ref 82), .inl (.ref 84), .inl (.ref 85), .inl (.ref 86), .inl (.ref 87), .inr 0, .inr 1]), .inl (7, 99, 0, [.inl (.ref 2), .inl (.ref 18), .inl (.ref 19), .inl (.ref 20), .inl (.ref 21)]), .inr (.inr (5, [some 3, some 4, some 5, some 6, some 7, some 8, some 9, some 10, some 11, some 12, some 13, some 14, some 15, some 16, some 17])), .inr (.inl (21, 0, 96)), .inr (.inl (22, 0, 96)), .inr (.inl (23, 0, 96)), .inr (.inl (24, 0, 96)), .inr (.inl (25, 0, 96)), .inr (.inl (26, 0, 96)), .inr (.inl (27, 0, 96)), .inr (.inl (28, 0, 96)), .inr (.inl (29, 0, 96)), .inr (.inl (30, 0, 96)), .inr (.inl (31, 0, 96)), .inr (.inl (32, 0, 96)), .inr (.inl (33, 0, 96)), .inr (.inl (34, 0, 96)), .inr (.inl (35, 0, 96)), .inr (.inl (3, 0, 15)), .inr (.inl (4, 0, 15)), .inr (.inl (5, 0, 15)), .inr (.inl (6, 0, 96)), .inl (2, 0, 0, [.inl (.ref 1), .inl (.ref 23), .inl (.ref 24), .inl (.ref 25), .inr 10, .inr 11, .inr 12, .inr 2, .inr 3, .inr 4, .inr 5, .inr 6, .inr 7, .inr 8, .inr 9, .inr 1, .inr 0]), .inr (.inr (1, [some 26, some 27, some 28, some 29, some 30, some 31, some 32, some 33])), .inr (.inr (2, [some 34, some 35, some 36, some 37, some 38, some 39, some 40, some 41])), .inr (.inl (0, 69, 3)), .inl (1, 0, 13, [.inr 0, .inr 1, .inr 2, .inr 3]), .inl (1, 0, 17, [.inr 0, .inr 1, .inr 2, .inr 3]), .inl (1, 0, 21, [.inr 0, .inr 1, .inr 2, .inr 3]), .inl (1, 0, 25, [.inr 0, .inr 1, .inr 2, .inr 3]), .inl (1, 0, 29, [.inr 0, .inr 1, .inr 2, .inr 3]), .inl (1, 0, 33, [.inr 0, .inr 1, .inr 2, .inr 3]), .inl (1, 0, 37, [.inr 0, .inr 1, .inr 2, .inr 3]), .inl (1, 0, 41, [.inr 0, .inr 1, .inr 2, .inr 3]), .inl (0, 0, 45, [.inr 0, .inr 1, .inr 2])]
def gt_t1 : List gt_D := [.inl (0, 0, 48, [.inr 0, .inr 1, .inr 2]), .inl (0, 0, 51, [.inr 0, .inr 1, .inr 2]), .inl (0, 0, 54, [.inr 0, .inr 1, .inr 2]), .inl (0, 0, 57, [.inr 0, .inr 1, .inr 2]), .inl (0, 0, 60, [.inr 0, .inr 1, .inr 2]), .inl (0, 0, 63, [.inr 0, .inr 1, .inr 2]), .inl (0, 0, 66, [.inr 0, .inr 1, .inr 2]), .inl (2, 1, 0, [.inl (.ref 1), .inl (.ref 43), .inl (.ref 44), .inl (.ref 45), .inr 10, .inr 11, .inr 12, .inr 2, .inr 3, .inr 4, .inr 5, .inr 6, .inr 7, .inr 8, .inr 9, .inr 1, .inr 0]), .inr (.inr (1, [some 46, some 47, some 48, some 49, some 50, some 51, some 52, some 53])), .inr (.inr (2, [some 54, some 55, some 56, some 57, some 58, some 59, some 60, some 61])), .inr (.inl (1, 69, 3)), .inl (1, 1, 13, [.inr 0, .inr 1, .inr 2, .inr 3]), .inl (1, 1, 17, [.inr 0, .inr 1, .inr 2, .inr 3]), .inl (1, 1, 21, [.inr 0, .inr 1, .inr 2, .inr 3]), .inl (1, 1, 25, [.inr 0, .inr 1, .inr 2, .inr 3]), .inl (1, 1, 29, [.inr 0, .inr 1, .inr 2, .inr 3]), .inl (1, 1, 33, [.inr 0, .inr 1, .inr 2, .inr 3]), .inl (1, 1, 37, [.inr 0, .inr 1, .inr 2, .inr 3]), .inl (1, 1, 41, [.inr 0, .inr 1, .inr 2, .inr 3]), .inl (0, 1, 45, [.inr 0, .inr 1, .inr 2]), .inl (0, 1, 48, [.inr 0, .inr 1, .inr 2]), .inl (0, 1, 51, [.inr 0, .inr 1, .inr 2]), .inl (0, 1, 54, [.inr 0, .inr 1, .inr 2]), .inl (0, 1, 57, [.inr 0, .inr 1, .inr 2]), .inl (0, 1, 60, [.inr 0, .inr 1, .inr 2]), .inl (0, 1, 63, [.inr 0, .inr 1, .inr 2]), .inl (0, 1, 66, [.inr 0, .inr 1, .inr 2]), .inl (2, 2, 0, [.inl (.ref 1), .inl (.ref 63), .inl (.ref 64), .inl (.ref 65), .inr 10, .inr 11, .inr 12, .inr 2, .inr 3, .inr 4, .inr 5, .inr 6, .inr 7, .inr 8, .inr 9, .inr 1, .inr 0]), .inr (.inr (1, [some 66, some 67, some 68, some 69, some 70, some 71, some 72, some 73])), .inr (.inr (2, [some 74, some 75, some 76, some 77, some 78, some 79, some 80, some 81])), .inr (.inl (2, 69, 3)), .inl (1, 2, 13, [.inr 0, .inr 1, .inr 2, .inr 3]), .inl (1, 2, 17, [.inr 0, .inr 1, .inr 2, .inr 3]), .inl (1, 2, 21, [.inr 0, .inr 1, .inr 2, .inr 3]), .inl (1, 2, 25, [.inr 0, .inr 1, .inr 2, .inr 3])]
def gt_t2 : List gt_D := [.inl (1, 2, 29, [.inr 0, .inr 1, .inr 2, .inr 3]), .inl (1, 2, 33, [.inr 0, .inr 1, .inr 2, .inr 3]), .inl (1, 2, 37, [.inr 0, .inr 1, .inr 2, .inr 3]), .inl (1, 2, 41, [.inr 0, .inr 1, .inr 2, .inr 3]), .inl (0, 2, 45, [.inr 0, .inr 1, .inr 2]), .inl (0, 2, 48, [.inr 0, .inr 1, .inr 2]), .inl (0, 2, 51, [.inr 0, .inr 1, .inr 2]), .inl (0, 2, 54, [.inr 0, .inr 1, .inr 2]), .inl (0, 2, 57, [.inr 0, .inr 1, .inr 2]), .inl (0, 2, 60, [.inr 0, .inr 1, .inr 2]), .inl (0, 2, 63, [.inr 0, .inr 1, .inr 2]), .inl (0, 2, 66, [.inr 0, .inr 1, .inr 2]), .inl (6, 7, 0, [.inl (.ref 83), .inr 0, .inr 1, .inr 2, .inr 3]), .inr (.inl (8, 0, 96)), .inl (3, 9, 0, [.inl (.ref 82), .inl (.ref 1), .inr 0, .inr 1001]), .inr (.inr (3, [some 88, some 90, some 92, some 94])), .inr (.inr (4, [some 96, some 100, some 104, some 108, some 112])), .inr (.inl (11, 0, 60)), .inl (4, 12, 0, [.inl (.ref 89), .inr 0, .inr 1]), .inr (.inl (12, 2, 24)), .inl (4, 13, 0, [.inl (.ref 91), .inr 0, .inr 1]), .inr (.inl (13, 2, 24)), .inl (4, 14, 0, [.inl (.ref 93), .inr 0, .inr 1]), .inr (.inl (14, 2, 24)), .inl (4, 15, 0, [.inl (.ref 95), .inr 0, .inr 1]), .inr (.inl (15, 2, 24)), .inl (5, 16, 0, [.inl (.ref 97), .inl (.ref 98), .inr 0, .inr 1]), .inl (1, 16, 2, [.inr 0, .inr 1, .inr 2, .inr 3]), .inl (4, 16, 6, [.inl (.ref 99), .inr 0, .inr 1]), .inr (.inl (16, 8, 24)), .inl (5, 17, 0, [.inl (.ref 101), .inl (.ref 102), .inr 0, .inr 1]), .inl (1, 17, 2, [.inr 0, .inr 1, .inr 2, .inr 3]), .inl (4, 17, 6, [.inl (.ref 103), .inr 0, .inr 1]), .inr (.inl (17, 8, 24)), .inl (5, 18, 0, [.inl (.ref 105), .inl (.ref 106), .inr 0, .inr 1])]
def gt_t3 : List gt_D := [.inl (1, 18, 2, [.inr 0, .inr 1, .inr 2, .inr 3]), .inl (4, 18, 6, [.inl (.ref 107), .inr 0, .inr 1]), .inr (.inl (18, 8, 24)), .inl (5, 19, 0, [.inl (.ref 109), .inl (.ref 110), .inr 0, .inr 1]), .inl (1, 19, 2, [.inr 0, .inr 1, .inr 2, .inr 3]), .inl (4, 19, 6, [.inl (.ref 111), .inr 0, .inr 1]), .inr (.inl (19, 8, 24)), .inl (5, 20, 0, [.inl (.ref 113), .inl (.ref 114), .inr 0, .inr 1]), .inl (1, 20, 2, [.inr 0, .inr 1, .inr 2, .inr 3]), .inl (4, 20, 6, [.inl (.ref 115), .inr 0, .inr 1]), .inr (.inl (20, 8, 24)), .inl (9, 54, 0, [.inl (.ref 117), .inl (.ref 118), .inr 0, .inl (.ref 119), .inl (.ref 120), .inr 1, .inl (.ref 121), .inl (.ref 122), .inr 2, .inr 3, .inr 4, .inr 5, .inr 6, .inr 7, .inr 8, .inr 9, .inr 10, .inl (.ref 123), .inl (.ref 124), .inl (.ref 125), .inl (.ref 126), .inl (.ref 127), .inl (.ref 128), .inl (.ref 129), .inl (.ref 130), .inl (.ref 131), .inl (.ref 132), .inr 11]), .inr (.inl (40, 0, 1469)), .inr (.inl (41, 0, 1469)), .inr (.inl (42, 0, 69)), .inr (.inl (43, 0, 96)), .inr (.inr (6, [some 10031, some 10033, some 10035])), .inr (.inr (6, [some 10032, some 10034, some 10036])), .inr (.inl (44, 0, 100)), .inr (.inl (45, 0, 3)), .inr (.inl (46, 0, 100)), .inr (.inl (47, 0, 4)), .inr (.inl (48, 0, 4)), .inr (.inl (49, 0, 96)), .inr (.inl (50, 0, 24)), .inr (.inl (51, 0, 5)), .inr (.inl (52, 0, 125)), .inr (.inl (53, 0, 60))]
def gt_t : List gt_D := gt_t0 ++ (gt_t1 ++ (gt_t2 ++ gt_t3))
def gt_h (u : gt_M) : gm_H := gt_t.map (gt_in u)
def gt_m0 : gt_M := fun b o => match b, o with
  | 0, 0 => 1
  | 0, 2 => 30
  | 0, 3 => 60
  | 0, 69 => -1000000005
  | 0, 70 => -1000000005
  | 0, 71 => -1000000005
  | 1, 0 => 1
  | 1, 2 => 30
  | 1, 3 => 60
  | 1, 69 => -1000000005
  | 1, 70 => -1000000005
  | 1, 71 => -1000000005
  | 2, 0 => 1
  | 2, 2 => 30
  | 2, 3 => 60
  | 2, 69 => -1000000005
  | 2, 70 => -1000000005
  | 2, 71 => -1000000005
  | 12, 0 => -1
  | 13, 0 => -1
  | 14, 0 => -1
  | 15, 0 => -1
  | 16, 6 => -1
  | 17, 6 => -1
  | 18, 6 => -1
  | 19, 6 => -1
  | 20, 6 => -1
  | 40, 0 => 1
  | 40, 2 => 30
  | 40, 3 => 60
  | 47, 0 => -1
  | 47, 1 => -1
  | 47, 2 => -1
  | 47, 3 => -1
  | _, _ => 0
/-- which places a cell holds -/
def gt_rg (q : gt_D) : Nat × Nat × Nat := match q with
  | .inl (_, b, o, fs) => (b, o, (fs.map (fun f => match f with
    | .inl _ => 0
    | .inr j => (if j < 1000 then j else j - 1000) + 1)).foldl max 0)
  | .inr (.inl (b, o, n)) => (b, o, n)
  | .inr (.inr _) => (1000, 0, 0)
def gt_dis (q r : gt_D) : Bool := let a := gt_rg q; let b := gt_rg r; !(a.1 == b.1) || (a.2.1 + a.2.2 ≤ b.2.1 || b.2.1 + b.2.2 ≤ a.2.1)
def gt_apart : List gt_D → Bool
  | [] => true
  | q :: l => l.all (gt_dis q) && gt_apart l
theorem gt_apart_t : gt_apart gt_t = true := by decide +kernel
def gt_S : List Nat := [57, 50, 9, 2, 0, 40, 26, 34, 38, 114]
def gt_ok1 (e : gm_CE) : Bool := match e.2.2.2 with
  | .arraylength => false
  | .invokevirtual j => gt_S.contains j
  | .invokestatic j => gt_S.contains j
  | .invokespecial j => j == 9999 || gt_S.contains j
  | .invokeinterface j _ => gt_S.contains j
  | _ => true
theorem gt_S_ok : gt_S.all (fun i => (gm_code i).all gt_ok1) = true := by decide +kernel
def gt_beq (a b : gm_E) : Bool := match a, b with
  | .inl (t, .inl xs), .inl (u, .inl ys) => t == u && decide (xs = ys)
  | .inl (t, .inr xs), .inl (u, .inr ys) => t == u && decide (xs = ys)
  | .inr (c, fs), .inr (e, gs) => c == e && decide (fs = gs)
  | _, _ => false
theorem gt_beq_ok {a b : gm_E} (h : gt_beq a b = true) : a = b := by
  unfold gt_beq at h
  split at h
  · simp only [Bool.and_eq_true, beq_iff_eq, decide_eq_true_eq] at h
    rw [h.1, h.2]
  · simp only [Bool.and_eq_true, beq_iff_eq, decide_eq_true_eq] at h
    rw [h.1, h.2]
  · simp only [Bool.and_eq_true, beq_iff_eq, decide_eq_true_eq] at h
    rw [h.1, h.2]
  · cases h
def gt_heq : gm_H → gm_H → Bool
  | [], [] => true
  | a :: l, b :: m => gt_beq a b && gt_heq l m
  | _, _ => false
theorem gt_heq_ok : ∀ {a b : gm_H}, gt_heq a b = true → a = b
  | [], [], _ => rfl
  | a :: l, b :: m, h => by
    simp only [gt_heq, Bool.and_eq_true] at h
    rw [gt_beq_ok h.1, gt_heq_ok h.2]
  | [], b :: m, h => by cases h
  | a :: l, [], h => by cases h
def gt_is (x : Option (Option Value × gm_H)) (h : gm_H) : Bool := match x with
  | some (none, g) => gt_heq g h
  | _ => false
theorem gt_is_ok {x : Option (Option Value × gm_H)} {h : gm_H} (q : gt_is x h = true) : x = some (none, h) := by
  unfold gt_is at q
  split at q
  · rw [gt_heq_ok q]
  · cases q
theorem gt_con1 : gm_run [] 3000 10 57 0 (gm_ent 57 [.ref 0]) [] [.inr (8, gm_new 8)] = some (none, (gt_h gt_m0).take 116) := gt_is_ok (by decide +kernel)
theorem gt_con2 : gm_run [] 3000 10 114 0 (gm_ent 114 [.ref 116]) [] ((gt_h gt_m0).take 116 ++ [.inr (9, gm_new 9)]) = some (none, gt_h gt_m0) := gt_is_ok (by decide +kernel)
