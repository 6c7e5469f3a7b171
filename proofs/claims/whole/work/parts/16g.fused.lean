-- instructions that meet a known cell
section FU
variable {X : List Int32} {d i e g ii s t k : Nat} {l : List Instr} {L st : List Value} {u : gt_M} {x : Int32}
theorem bf_zGC_0 (hg : g < 3) : gm_bl X d i e (.getfield 200 :: l) L (.ref (zGC g) :: st) (gt_h u) = gm_bl X d i e l L (.ref (1) :: st) (gt_h u) := by
  rw [bl_gf, f_zGC_0 hg]
  rfl
theorem bf_zGC_1 (hg : g < 3) : gm_bl X d i e (.getfield 201 :: l) L (.ref (zGC g) :: st) (gt_h u) = gm_bl X d i e l L (.ref (zBA g) :: st) (gt_h u) := by
  rw [bl_gf, f_zGC_1 hg]
  rfl
theorem bf_zGC_2 (hg : g < 3) : gm_bl X d i e (.getfield 202 :: l) L (.ref (zGC g) :: st) (gt_h u) = gm_bl X d i e l L (.ref (zDA g) :: st) (gt_h u) := by
  rw [bl_gf, f_zGC_2 hg]
  rfl
theorem bf_zGC_3 (hg : g < 3) : gm_bl X d i e (.getfield 203 :: l) L (.ref (zGC g) :: st) (gt_h u) = gm_bl X d i e l L (.ref (zCA g) :: st) (gt_h u) := by
  rw [bl_gf, f_zGC_3 hg]
  rfl
theorem bf_zGC_4 (hg : g < 3) : gm_bl X d i e (.getfield 204 :: l) L (.ref (zGC g) :: st) (gt_h u) = gm_bl X d i e l L (.int (u g 10) :: st) (gt_h u) := by
  rw [bl_gf, f_zGC_4 hg]
  rfl
theorem bpf_zGC_4 (hg : g < 3) : gm_bl X d i e (.putfield 204 :: l) L (.int x :: .ref (zGC g) :: st) (gt_h u) = gm_bl X d i e l L st (gt_h (gt_set u g 10 x)) := by
  rw [bl_pf, pf_zGC_4 hg]
  rfl
theorem bf_zGC_5 (hg : g < 3) : gm_bl X d i e (.getfield 205 :: l) L (.ref (zGC g) :: st) (gt_h u) = gm_bl X d i e l L (.int (u g 11) :: st) (gt_h u) := by
  rw [bl_gf, f_zGC_5 hg]
  rfl
theorem bpf_zGC_5 (hg : g < 3) : gm_bl X d i e (.putfield 205 :: l) L (.int x :: .ref (zGC g) :: st) (gt_h u) = gm_bl X d i e l L st (gt_h (gt_set u g 11 x)) := by
  rw [bl_pf, pf_zGC_5 hg]
  rfl
theorem bf_zGC_6 (hg : g < 3) : gm_bl X d i e (.getfield 206 :: l) L (.ref (zGC g) :: st) (gt_h u) = gm_bl X d i e l L (.int (u g 12) :: st) (gt_h u) := by
  rw [bl_gf, f_zGC_6 hg]
  rfl
theorem bpf_zGC_6 (hg : g < 3) : gm_bl X d i e (.putfield 206 :: l) L (.int x :: .ref (zGC g) :: st) (gt_h u) = gm_bl X d i e l L st (gt_h (gt_set u g 12 x)) := by
  rw [bl_pf, pf_zGC_6 hg]
  rfl
theorem bf_zGC_7 (hg : g < 3) : gm_bl X d i e (.getfield 207 :: l) L (.ref (zGC g) :: st) (gt_h u) = gm_bl X d i e l L (.int (u g 2) :: st) (gt_h u) := by
  rw [bl_gf, f_zGC_7 hg]
  rfl
theorem bpf_zGC_7 (hg : g < 3) : gm_bl X d i e (.putfield 207 :: l) L (.int x :: .ref (zGC g) :: st) (gt_h u) = gm_bl X d i e l L st (gt_h (gt_set u g 2 x)) := by
  rw [bl_pf, pf_zGC_7 hg]
  rfl
theorem bf_zGC_8 (hg : g < 3) : gm_bl X d i e (.getfield 208 :: l) L (.ref (zGC g) :: st) (gt_h u) = gm_bl X d i e l L (.int (u g 3) :: st) (gt_h u) := by
  rw [bl_gf, f_zGC_8 hg]
  rfl
theorem bpf_zGC_8 (hg : g < 3) : gm_bl X d i e (.putfield 208 :: l) L (.int x :: .ref (zGC g) :: st) (gt_h u) = gm_bl X d i e l L st (gt_h (gt_set u g 3 x)) := by
  rw [bl_pf, pf_zGC_8 hg]
  rfl
theorem bf_zGC_9 (hg : g < 3) : gm_bl X d i e (.getfield 209 :: l) L (.ref (zGC g) :: st) (gt_h u) = gm_bl X d i e l L (.int (u g 4) :: st) (gt_h u) := by
  rw [bl_gf, f_zGC_9 hg]
  rfl
theorem bpf_zGC_9 (hg : g < 3) : gm_bl X d i e (.putfield 209 :: l) L (.int x :: .ref (zGC g) :: st) (gt_h u) = gm_bl X d i e l L st (gt_h (gt_set u g 4 x)) := by
  rw [bl_pf, pf_zGC_9 hg]
  rfl
theorem bf_zGC_10 (hg : g < 3) : gm_bl X d i e (.getfield 210 :: l) L (.ref (zGC g) :: st) (gt_h u) = gm_bl X d i e l L (.int (u g 5) :: st) (gt_h u) := by
  rw [bl_gf, f_zGC_10 hg]
  rfl
theorem bpf_zGC_10 (hg : g < 3) : gm_bl X d i e (.putfield 210 :: l) L (.int x :: .ref (zGC g) :: st) (gt_h u) = gm_bl X d i e l L st (gt_h (gt_set u g 5 x)) := by
  rw [bl_pf, pf_zGC_10 hg]
  rfl
theorem bf_zGC_11 (hg : g < 3) : gm_bl X d i e (.getfield 211 :: l) L (.ref (zGC g) :: st) (gt_h u) = gm_bl X d i e l L (.int (u g 6) :: st) (gt_h u) := by
  rw [bl_gf, f_zGC_11 hg]
  rfl
theorem bpf_zGC_11 (hg : g < 3) : gm_bl X d i e (.putfield 211 :: l) L (.int x :: .ref (zGC g) :: st) (gt_h u) = gm_bl X d i e l L st (gt_h (gt_set u g 6 x)) := by
  rw [bl_pf, pf_zGC_11 hg]
  rfl
theorem bf_zGC_12 (hg : g < 3) : gm_bl X d i e (.getfield 212 :: l) L (.ref (zGC g) :: st) (gt_h u) = gm_bl X d i e l L (.int (u g 7) :: st) (gt_h u) := by
  rw [bl_gf, f_zGC_12 hg]
  rfl
theorem bpf_zGC_12 (hg : g < 3) : gm_bl X d i e (.putfield 212 :: l) L (.int x :: .ref (zGC g) :: st) (gt_h u) = gm_bl X d i e l L st (gt_h (gt_set u g 7 x)) := by
  rw [bl_pf, pf_zGC_12 hg]
  rfl
theorem bf_zGC_13 (hg : g < 3) : gm_bl X d i e (.getfield 213 :: l) L (.ref (zGC g) :: st) (gt_h u) = gm_bl X d i e l L (.int (u g 8) :: st) (gt_h u) := by
  rw [bl_gf, f_zGC_13 hg]
  rfl
theorem bpf_zGC_13 (hg : g < 3) : gm_bl X d i e (.putfield 213 :: l) L (.int x :: .ref (zGC g) :: st) (gt_h u) = gm_bl X d i e l L st (gt_h (gt_set u g 8 x)) := by
  rw [bl_pf, pf_zGC_13 hg]
  rfl
theorem bf_zGC_14 (hg : g < 3) : gm_bl X d i e (.getfield 214 :: l) L (.ref (zGC g) :: st) (gt_h u) = gm_bl X d i e l L (.int (u g 9) :: st) (gt_h u) := by
  rw [bl_gf, f_zGC_14 hg]
  rfl
theorem bpf_zGC_14 (hg : g < 3) : gm_bl X d i e (.putfield 214 :: l) L (.int x :: .ref (zGC g) :: st) (gt_h u) = gm_bl X d i e l L st (gt_h (gt_set u g 9 x)) := by
  rw [bl_pf, pf_zGC_14 hg]
  rfl
theorem bf_zGC_15 (hg : g < 3) : gm_bl X d i e (.getfield 215 :: l) L (.ref (zGC g) :: st) (gt_h u) = gm_bl X d i e l L (.int (u g 1) :: st) (gt_h u) := by
  rw [bl_gf, f_zGC_15 hg]
  rfl
theorem bpf_zGC_15 (hg : g < 3) : gm_bl X d i e (.putfield 215 :: l) L (.int x :: .ref (zGC g) :: st) (gt_h u) = gm_bl X d i e l L st (gt_h (gt_set u g 1 x)) := by
  rw [bl_pf, pf_zGC_15 hg]
  rfl
theorem bf_zGC_16 (hg : g < 3) : gm_bl X d i e (.getfield 216 :: l) L (.ref (zGC g) :: st) (gt_h u) = gm_bl X d i e l L (.int (u g 0) :: st) (gt_h u) := by
  rw [bl_gf, f_zGC_16 hg]
  rfl
theorem bpf_zGC_16 (hg : g < 3) : gm_bl X d i e (.putfield 216 :: l) L (.int x :: .ref (zGC g) :: st) (gt_h u) = gm_bl X d i e l L st (gt_h (gt_set u g 0 x)) := by
  rw [bl_pf, pf_zGC_16 hg]
  rfl
theorem bf_zBC_0 (hg : g < 3) (hi : ii < 8) : gm_bl X d i e (.getfield 100 :: l) L (.ref (zBC g ii) :: st) (gt_h u) = gm_bl X d i e l L (.int (u g (13 + 4 * ii + 0)) :: st) (gt_h u) := by
  rw [bl_gf, f_zBC_0 hg hi]
  rfl
theorem bpf_zBC_0 (hg : g < 3) (hi : ii < 8) : gm_bl X d i e (.putfield 100 :: l) L (.int x :: .ref (zBC g ii) :: st) (gt_h u) = gm_bl X d i e l L st (gt_h (gt_set u g (13 + 4 * ii + 0) x)) := by
  rw [bl_pf, pf_zBC_0 hg hi]
  rfl
theorem bf_zBC_1 (hg : g < 3) (hi : ii < 8) : gm_bl X d i e (.getfield 101 :: l) L (.ref (zBC g ii) :: st) (gt_h u) = gm_bl X d i e l L (.int (u g (13 + 4 * ii + 1)) :: st) (gt_h u) := by
  rw [bl_gf, f_zBC_1 hg hi]
  rfl
theorem bpf_zBC_1 (hg : g < 3) (hi : ii < 8) : gm_bl X d i e (.putfield 101 :: l) L (.int x :: .ref (zBC g ii) :: st) (gt_h u) = gm_bl X d i e l L st (gt_h (gt_set u g (13 + 4 * ii + 1) x)) := by
  rw [bl_pf, pf_zBC_1 hg hi]
  rfl
theorem bf_zBC_2 (hg : g < 3) (hi : ii < 8) : gm_bl X d i e (.getfield 102 :: l) L (.ref (zBC g ii) :: st) (gt_h u) = gm_bl X d i e l L (.int (u g (13 + 4 * ii + 2)) :: st) (gt_h u) := by
  rw [bl_gf, f_zBC_2 hg hi]
  rfl
theorem bpf_zBC_2 (hg : g < 3) (hi : ii < 8) : gm_bl X d i e (.putfield 102 :: l) L (.int x :: .ref (zBC g ii) :: st) (gt_h u) = gm_bl X d i e l L st (gt_h (gt_set u g (13 + 4 * ii + 2) x)) := by
  rw [bl_pf, pf_zBC_2 hg hi]
  rfl
theorem bf_zBC_3 (hg : g < 3) (hi : ii < 8) : gm_bl X d i e (.getfield 103 :: l) L (.ref (zBC g ii) :: st) (gt_h u) = gm_bl X d i e l L (.int (u g (13 + 4 * ii + 3)) :: st) (gt_h u) := by
  rw [bl_gf, f_zBC_3 hg hi]
  rfl
theorem bpf_zBC_3 (hg : g < 3) (hi : ii < 8) : gm_bl X d i e (.putfield 103 :: l) L (.int x :: .ref (zBC g ii) :: st) (gt_h u) = gm_bl X d i e l L st (gt_h (gt_set u g (13 + 4 * ii + 3) x)) := by
  rw [bl_pf, pf_zBC_3 hg hi]
  rfl
theorem bf_zDC_0 (hg : g < 3) (hi : ii < 8) : gm_bl X d i e (.getfield 0 :: l) L (.ref (zDC g ii) :: st) (gt_h u) = gm_bl X d i e l L (.int (u g (45 + 3 * ii + 0)) :: st) (gt_h u) := by
  rw [bl_gf, f_zDC_0 hg hi]
  rfl
theorem bpf_zDC_0 (hg : g < 3) (hi : ii < 8) : gm_bl X d i e (.putfield 0 :: l) L (.int x :: .ref (zDC g ii) :: st) (gt_h u) = gm_bl X d i e l L st (gt_h (gt_set u g (45 + 3 * ii + 0) x)) := by
  rw [bl_pf, pf_zDC_0 hg hi]
  rfl
theorem bf_zDC_1 (hg : g < 3) (hi : ii < 8) : gm_bl X d i e (.getfield 1 :: l) L (.ref (zDC g ii) :: st) (gt_h u) = gm_bl X d i e l L (.int (u g (45 + 3 * ii + 1)) :: st) (gt_h u) := by
  rw [bl_gf, f_zDC_1 hg hi]
  rfl
theorem bpf_zDC_1 (hg : g < 3) (hi : ii < 8) : gm_bl X d i e (.putfield 1 :: l) L (.int x :: .ref (zDC g ii) :: st) (gt_h u) = gm_bl X d i e l L st (gt_h (gt_set u g (45 + 3 * ii + 1) x)) := by
  rw [bl_pf, pf_zDC_1 hg hi]
  rfl
theorem bf_zDC_2 (hg : g < 3) (hi : ii < 8) : gm_bl X d i e (.getfield 2 :: l) L (.ref (zDC g ii) :: st) (gt_h u) = gm_bl X d i e l L (.int (u g (45 + 3 * ii + 2)) :: st) (gt_h u) := by
  rw [bl_gf, f_zDC_2 hg hi]
  rfl
theorem bpf_zDC_2 (hg : g < 3) (hi : ii < 8) : gm_bl X d i e (.putfield 2 :: l) L (.int x :: .ref (zDC g ii) :: st) (gt_h u) = gm_bl X d i e l L st (gt_h (gt_set u g (45 + 3 * ii + 2) x)) := by
  rw [bl_pf, pf_zDC_2 hg hi]
  rfl
theorem bf_zSC_0 (hs : s < 4) : gm_bl X d i e (.getfield 400 :: l) L (.ref (zSC s) :: st) (gt_h u) = gm_bl X d i e l L (.ref (zSP s) :: st) (gt_h u) := by
  rw [bl_gf, f_zSC_0 hs]
  rfl
theorem bf_zSC_1 (hs : s < 4) : gm_bl X d i e (.getfield 401 :: l) L (.ref (zSC s) :: st) (gt_h u) = gm_bl X d i e l L (.int (u (12 + s) 0) :: st) (gt_h u) := by
  rw [bl_gf, f_zSC_1 hs]
  rfl
theorem bpf_zSC_1 (hs : s < 4) : gm_bl X d i e (.putfield 401 :: l) L (.int x :: .ref (zSC s) :: st) (gt_h u) = gm_bl X d i e l L st (gt_h (gt_set u (12 + s) 0 x)) := by
  rw [bl_pf, pf_zSC_1 hs]
  rfl
theorem bf_zSC_2 (hs : s < 4) : gm_bl X d i e (.getfield 402 :: l) L (.ref (zSC s) :: st) (gt_h u) = gm_bl X d i e l L (.int (u (12 + s) 1) :: st) (gt_h u) := by
  rw [bl_gf, f_zSC_2 hs]
  rfl
theorem bpf_zSC_2 (hs : s < 4) : gm_bl X d i e (.putfield 402 :: l) L (.int x :: .ref (zSC s) :: st) (gt_h u) = gm_bl X d i e l L st (gt_h (gt_set u (12 + s) 1 x)) := by
  rw [bl_pf, pf_zSC_2 hs]
  rfl
theorem bf_zLC_0 (hs : s < 5) : gm_bl X d i e (.getfield 500 :: l) L (.ref (zLC s) :: st) (gt_h u) = gm_bl X d i e l L (.ref (zLB s) :: st) (gt_h u) := by
  rw [bl_gf, f_zLC_0 hs]
  rfl
theorem bf_zLC_1 (hs : s < 5) : gm_bl X d i e (.getfield 501 :: l) L (.ref (zLC s) :: st) (gt_h u) = gm_bl X d i e l L (.ref (zLS s) :: st) (gt_h u) := by
  rw [bl_gf, f_zLC_1 hs]
  rfl
theorem bf_zLC_2 (hs : s < 5) : gm_bl X d i e (.getfield 502 :: l) L (.ref (zLC s) :: st) (gt_h u) = gm_bl X d i e l L (.int (u (16 + s) 0) :: st) (gt_h u) := by
  rw [bl_gf, f_zLC_2 hs]
  rfl
theorem bpf_zLC_2 (hs : s < 5) : gm_bl X d i e (.putfield 502 :: l) L (.int x :: .ref (zLC s) :: st) (gt_h u) = gm_bl X d i e l L st (gt_h (gt_set u (16 + s) 0 x)) := by
  rw [bl_pf, pf_zLC_2 hs]
  rfl
theorem bf_zLC_3 (hs : s < 5) : gm_bl X d i e (.getfield 503 :: l) L (.ref (zLC s) :: st) (gt_h u) = gm_bl X d i e l L (.int (u (16 + s) 1) :: st) (gt_h u) := by
  rw [bl_gf, f_zLC_3 hs]
  rfl
theorem bpf_zLC_3 (hs : s < 5) : gm_bl X d i e (.putfield 503 :: l) L (.int x :: .ref (zLC s) :: st) (gt_h u) = gm_bl X d i e l L st (gt_h (gt_set u (16 + s) 1 x)) := by
  rw [bl_pf, pf_zLC_3 hs]
  rfl
theorem bf_zLB_0 (hs : s < 5) : gm_bl X d i e (.getfield 100 :: l) L (.ref (zLB s) :: st) (gt_h u) = gm_bl X d i e l L (.int (u (16 + s) 2) :: st) (gt_h u) := by
  rw [bl_gf, f_zLB_0 hs]
  rfl
theorem bpf_zLB_0 (hs : s < 5) : gm_bl X d i e (.putfield 100 :: l) L (.int x :: .ref (zLB s) :: st) (gt_h u) = gm_bl X d i e l L st (gt_h (gt_set u (16 + s) 2 x)) := by
  rw [bl_pf, pf_zLB_0 hs]
  rfl
theorem bf_zLB_1 (hs : s < 5) : gm_bl X d i e (.getfield 101 :: l) L (.ref (zLB s) :: st) (gt_h u) = gm_bl X d i e l L (.int (u (16 + s) 3) :: st) (gt_h u) := by
  rw [bl_gf, f_zLB_1 hs]
  rfl
theorem bpf_zLB_1 (hs : s < 5) : gm_bl X d i e (.putfield 101 :: l) L (.int x :: .ref (zLB s) :: st) (gt_h u) = gm_bl X d i e l L st (gt_h (gt_set u (16 + s) 3 x)) := by
  rw [bl_pf, pf_zLB_1 hs]
  rfl
theorem bf_zLB_2 (hs : s < 5) : gm_bl X d i e (.getfield 102 :: l) L (.ref (zLB s) :: st) (gt_h u) = gm_bl X d i e l L (.int (u (16 + s) 4) :: st) (gt_h u) := by
  rw [bl_gf, f_zLB_2 hs]
  rfl
theorem bpf_zLB_2 (hs : s < 5) : gm_bl X d i e (.putfield 102 :: l) L (.int x :: .ref (zLB s) :: st) (gt_h u) = gm_bl X d i e l L st (gt_h (gt_set u (16 + s) 4 x)) := by
  rw [bl_pf, pf_zLB_2 hs]
  rfl
theorem bf_zLB_3 (hs : s < 5) : gm_bl X d i e (.getfield 103 :: l) L (.ref (zLB s) :: st) (gt_h u) = gm_bl X d i e l L (.int (u (16 + s) 5) :: st) (gt_h u) := by
  rw [bl_gf, f_zLB_3 hs]
  rfl
theorem bpf_zLB_3 (hs : s < 5) : gm_bl X d i e (.putfield 103 :: l) L (.int x :: .ref (zLB s) :: st) (gt_h u) = gm_bl X d i e l L st (gt_h (gt_set u (16 + s) 5 x)) := by
  rw [bl_pf, pf_zLB_3 hs]
  rfl
theorem bf_zLS_0 (hs : s < 5) : gm_bl X d i e (.getfield 400 :: l) L (.ref (zLS s) :: st) (gt_h u) = gm_bl X d i e l L (.ref (zLP s) :: st) (gt_h u) := by
  rw [bl_gf, f_zLS_0 hs]
  rfl
theorem bf_zLS_1 (hs : s < 5) : gm_bl X d i e (.getfield 401 :: l) L (.ref (zLS s) :: st) (gt_h u) = gm_bl X d i e l L (.int (u (16 + s) 6) :: st) (gt_h u) := by
  rw [bl_gf, f_zLS_1 hs]
  rfl
theorem bpf_zLS_1 (hs : s < 5) : gm_bl X d i e (.putfield 401 :: l) L (.int x :: .ref (zLS s) :: st) (gt_h u) = gm_bl X d i e l L st (gt_h (gt_set u (16 + s) 6 x)) := by
  rw [bl_pf, pf_zLS_1 hs]
  rfl
theorem bf_zLS_2 (hs : s < 5) : gm_bl X d i e (.getfield 402 :: l) L (.ref (zLS s) :: st) (gt_h u) = gm_bl X d i e l L (.int (u (16 + s) 7) :: st) (gt_h u) := by
  rw [bl_gf, f_zLS_2 hs]
  rfl
theorem bpf_zLS_2 (hs : s < 5) : gm_bl X d i e (.putfield 402 :: l) L (.int x :: .ref (zLS s) :: st) (gt_h u) = gm_bl X d i e l L st (gt_h (gt_set u (16 + s) 7 x)) := by
  rw [bl_pf, pf_zLS_2 hs]
  rfl
theorem bf_0_0  : gm_bl X d i e (.getfield 800 :: l) L (.ref (0) :: st) (gt_h u) = gm_bl X d i e l L (.ref (1) :: st) (gt_h u) := by
  rw [bl_gf, f_0_0]
  rfl
theorem bf_0_1  : gm_bl X d i e (.getfield 801 :: l) L (.ref (0) :: st) (gt_h u) = gm_bl X d i e l L (.ref (zGC 0) :: st) (gt_h u) := by
  rw [bl_gf, f_0_1]
  rfl
theorem bf_0_2  : gm_bl X d i e (.getfield 802 :: l) L (.ref (0) :: st) (gt_h u) = gm_bl X d i e l L (.ref (zGC 1) :: st) (gt_h u) := by
  rw [bl_gf, f_0_2]
  rfl
theorem bf_0_3  : gm_bl X d i e (.getfield 803 :: l) L (.ref (0) :: st) (gt_h u) = gm_bl X d i e l L (.ref (zGC 2) :: st) (gt_h u) := by
  rw [bl_gf, f_0_3]
  rfl
theorem bf_0_4  : gm_bl X d i e (.getfield 804 :: l) L (.ref (0) :: st) (gt_h u) = gm_bl X d i e l L (.ref (82) :: st) (gt_h u) := by
  rw [bl_gf, f_0_4]
  rfl
theorem bf_0_5  : gm_bl X d i e (.getfield 805 :: l) L (.ref (0) :: st) (gt_h u) = gm_bl X d i e l L (.ref (84) :: st) (gt_h u) := by
  rw [bl_gf, f_0_5]
  rfl
theorem bf_0_6  : gm_bl X d i e (.getfield 806 :: l) L (.ref (0) :: st) (gt_h u) = gm_bl X d i e l L (.ref (85) :: st) (gt_h u) := by
  rw [bl_gf, f_0_6]
  rfl
theorem bf_0_7  : gm_bl X d i e (.getfield 807 :: l) L (.ref (0) :: st) (gt_h u) = gm_bl X d i e l L (.ref (86) :: st) (gt_h u) := by
  rw [bl_gf, f_0_7]
  rfl
theorem bf_0_8  : gm_bl X d i e (.getfield 808 :: l) L (.ref (0) :: st) (gt_h u) = gm_bl X d i e l L (.ref (87) :: st) (gt_h u) := by
  rw [bl_gf, f_0_8]
  rfl
theorem bf_0_9  : gm_bl X d i e (.getfield 809 :: l) L (.ref (0) :: st) (gt_h u) = gm_bl X d i e l L (.int (u 10 0) :: st) (gt_h u) := by
  rw [bl_gf, f_0_9]
  rfl
theorem bpf_0_9  : gm_bl X d i e (.putfield 809 :: l) L (.int x :: .ref (0) :: st) (gt_h u) = gm_bl X d i e l L st (gt_h (gt_set u 10 0 x)) := by
  rw [bl_pf, pf_0_9]
  rfl
theorem bf_0_10  : gm_bl X d i e (.getfield 810 :: l) L (.ref (0) :: st) (gt_h u) = gm_bl X d i e l L (.int (u 10 1) :: st) (gt_h u) := by
  rw [bl_gf, f_0_10]
  rfl
theorem bpf_0_10_1  : gm_bl X d i e (.putfield 810 :: l) L (.int (nI 1) :: .ref (0) :: st) (gt_h u) = gm_bl X d i e l L st (gt_h (gt_set u 10 1 (nI 1))) := by
  rw [bl_pf, pf_0_10_1]
  rfl
theorem bpf_0_10_0  : gm_bl X d i e (.putfield 810 :: l) L (.int (nI 0) :: .ref (0) :: st) (gt_h u) = gm_bl X d i e l L st (gt_h (gt_set u 10 1 (nI 0))) := by
  rw [bl_pf, pf_0_10_0]
  rfl
theorem bpf_0_10_b {c : Prop} [Decidable c]  : gm_bl X d i e (.putfield 810 :: l) L (.int (bI c) :: .ref (0) :: st) (gt_h u) = gm_bl X d i e l L st (gt_h (gt_set u 10 1 (bI c))) := by
  rw [bl_pf, pf_0_10_b]
  rfl
theorem bf_1_0  : gm_bl X d i e (.getfield 700 :: l) L (.ref (1) :: st) (gt_h u) = gm_bl X d i e l L (.ref (2) :: st) (gt_h u) := by
  rw [bl_gf, f_1_0]
  rfl
theorem bf_1_1  : gm_bl X d i e (.getfield 701 :: l) L (.ref (1) :: st) (gt_h u) = gm_bl X d i e l L (.ref (18) :: st) (gt_h u) := by
  rw [bl_gf, f_1_1]
  rfl
theorem bf_1_2  : gm_bl X d i e (.getfield 702 :: l) L (.ref (1) :: st) (gt_h u) = gm_bl X d i e l L (.ref (19) :: st) (gt_h u) := by
  rw [bl_gf, f_1_2]
  rfl
theorem bf_1_3  : gm_bl X d i e (.getfield 703 :: l) L (.ref (1) :: st) (gt_h u) = gm_bl X d i e l L (.ref (20) :: st) (gt_h u) := by
  rw [bl_gf, f_1_3]
  rfl
theorem bf_1_4  : gm_bl X d i e (.getfield 704 :: l) L (.ref (1) :: st) (gt_h u) = gm_bl X d i e l L (.ref (21) :: st) (gt_h u) := by
  rw [bl_gf, f_1_4]
  rfl
theorem bf_82_0  : gm_bl X d i e (.getfield 600 :: l) L (.ref (82) :: st) (gt_h u) = gm_bl X d i e l L (.ref (83) :: st) (gt_h u) := by
  rw [bl_gf, f_82_0]
  rfl
theorem bf_82_1  : gm_bl X d i e (.getfield 601 :: l) L (.ref (82) :: st) (gt_h u) = gm_bl X d i e l L (.int (u 7 0) :: st) (gt_h u) := by
  rw [bl_gf, f_82_1]
  rfl
theorem bpf_82_1  : gm_bl X d i e (.putfield 601 :: l) L (.int x :: .ref (82) :: st) (gt_h u) = gm_bl X d i e l L st (gt_h (gt_set u 7 0 x)) := by
  rw [bl_pf, pf_82_1]
  rfl
theorem bf_82_2  : gm_bl X d i e (.getfield 602 :: l) L (.ref (82) :: st) (gt_h u) = gm_bl X d i e l L (.int (u 7 1) :: st) (gt_h u) := by
  rw [bl_gf, f_82_2]
  rfl
theorem bpf_82_2  : gm_bl X d i e (.putfield 602 :: l) L (.int x :: .ref (82) :: st) (gt_h u) = gm_bl X d i e l L st (gt_h (gt_set u 7 1 x)) := by
  rw [bl_pf, pf_82_2]
  rfl
theorem bf_82_3  : gm_bl X d i e (.getfield 603 :: l) L (.ref (82) :: st) (gt_h u) = gm_bl X d i e l L (.int (u 7 2) :: st) (gt_h u) := by
  rw [bl_gf, f_82_3]
  rfl
theorem bpf_82_3  : gm_bl X d i e (.putfield 603 :: l) L (.int x :: .ref (82) :: st) (gt_h u) = gm_bl X d i e l L st (gt_h (gt_set u 7 2 x)) := by
  rw [bl_pf, pf_82_3]
  rfl
theorem bf_82_4  : gm_bl X d i e (.getfield 604 :: l) L (.ref (82) :: st) (gt_h u) = gm_bl X d i e l L (.int (u 7 3) :: st) (gt_h u) := by
  rw [bl_gf, f_82_4]
  rfl
theorem bpf_82_4  : gm_bl X d i e (.putfield 604 :: l) L (.int x :: .ref (82) :: st) (gt_h u) = gm_bl X d i e l L st (gt_h (gt_set u 7 3 x)) := by
  rw [bl_pf, pf_82_4]
  rfl
theorem bf_84_0  : gm_bl X d i e (.getfield 300 :: l) L (.ref (84) :: st) (gt_h u) = gm_bl X d i e l L (.ref (82) :: st) (gt_h u) := by
  rw [bl_gf, f_84_0]
  rfl
theorem bf_84_1  : gm_bl X d i e (.getfield 301 :: l) L (.ref (84) :: st) (gt_h u) = gm_bl X d i e l L (.ref (1) :: st) (gt_h u) := by
  rw [bl_gf, f_84_1]
  rfl
theorem bf_84_2  : gm_bl X d i e (.getfield 302 :: l) L (.ref (84) :: st) (gt_h u) = gm_bl X d i e l L (.int (u 9 0) :: st) (gt_h u) := by
  rw [bl_gf, f_84_2]
  rfl
theorem bpf_84_2  : gm_bl X d i e (.putfield 302 :: l) L (.int x :: .ref (84) :: st) (gt_h u) = gm_bl X d i e l L st (gt_h (gt_set u 9 0 x)) := by
  rw [bl_pf, pf_84_2]
  rfl
theorem bf_84_3  : gm_bl X d i e (.getfield 303 :: l) L (.ref 84 :: st) (gt_h u) = gm_bl X d i e l L (.ref (10030 + (u 9 1).toNatClampNeg) :: st) (gt_h u) := by
  rw [bl_gf, f_84_3]
  rfl
theorem bpf_84_3 (hk : k < 7) : gm_bl X d i e (.putfield 303 :: l) L (.ref (10030 + k) :: .ref 84 :: st) (gt_h u) = gm_bl X d i e l L st (gt_h (gt_set u 9 1 (nI k))) := by
  rw [bl_pf, pf_84_3 hk]
  rfl
theorem bf_116_0  : gm_bl X d i e (.getfield 900 :: l) L (.ref (116) :: st) (gt_h u) = gm_bl X d i e l L (.ref (117) :: st) (gt_h u) := by
  rw [bl_gf, f_116_0]
  rfl
theorem bf_116_1  : gm_bl X d i e (.getfield 901 :: l) L (.ref (116) :: st) (gt_h u) = gm_bl X d i e l L (.ref (118) :: st) (gt_h u) := by
  rw [bl_gf, f_116_1]
  rfl
theorem bf_116_2  : gm_bl X d i e (.getfield 902 :: l) L (.ref (116) :: st) (gt_h u) = gm_bl X d i e l L (.int (u 54 0) :: st) (gt_h u) := by
  rw [bl_gf, f_116_2]
  rfl
theorem bpf_116_2_1  : gm_bl X d i e (.putfield 902 :: l) L (.int (nI 1) :: .ref (116) :: st) (gt_h u) = gm_bl X d i e l L st (gt_h (gt_set u 54 0 (nI 1))) := by
  rw [bl_pf, pf_116_2_1]
  rfl
theorem bpf_116_2_0  : gm_bl X d i e (.putfield 902 :: l) L (.int (nI 0) :: .ref (116) :: st) (gt_h u) = gm_bl X d i e l L st (gt_h (gt_set u 54 0 (nI 0))) := by
  rw [bl_pf, pf_116_2_0]
  rfl
theorem bpf_116_2_b {c : Prop} [Decidable c]  : gm_bl X d i e (.putfield 902 :: l) L (.int (bI c) :: .ref (116) :: st) (gt_h u) = gm_bl X d i e l L st (gt_h (gt_set u 54 0 (bI c))) := by
  rw [bl_pf, pf_116_2_b]
  rfl
theorem bf_116_3  : gm_bl X d i e (.getfield 903 :: l) L (.ref (116) :: st) (gt_h u) = gm_bl X d i e l L (.ref (119) :: st) (gt_h u) := by
  rw [bl_gf, f_116_3]
  rfl
theorem bf_116_4  : gm_bl X d i e (.getfield 904 :: l) L (.ref (116) :: st) (gt_h u) = gm_bl X d i e l L (.ref (120) :: st) (gt_h u) := by
  rw [bl_gf, f_116_4]
  rfl
theorem bf_116_5  : gm_bl X d i e (.getfield 905 :: l) L (.ref (116) :: st) (gt_h u) = gm_bl X d i e l L (.int (u 54 1) :: st) (gt_h u) := by
  rw [bl_gf, f_116_5]
  rfl
theorem bpf_116_5  : gm_bl X d i e (.putfield 905 :: l) L (.int x :: .ref (116) :: st) (gt_h u) = gm_bl X d i e l L st (gt_h (gt_set u 54 1 x)) := by
  rw [bl_pf, pf_116_5]
  rfl
theorem bf_116_6  : gm_bl X d i e (.getfield 906 :: l) L (.ref (116) :: st) (gt_h u) = gm_bl X d i e l L (.ref (121) :: st) (gt_h u) := by
  rw [bl_gf, f_116_6]
  rfl
theorem bf_116_7  : gm_bl X d i e (.getfield 907 :: l) L (.ref (116) :: st) (gt_h u) = gm_bl X d i e l L (.ref (122) :: st) (gt_h u) := by
  rw [bl_gf, f_116_7]
  rfl
theorem bf_116_8  : gm_bl X d i e (.getfield 908 :: l) L (.ref (116) :: st) (gt_h u) = gm_bl X d i e l L (.int (u 54 2) :: st) (gt_h u) := by
  rw [bl_gf, f_116_8]
  rfl
theorem bpf_116_8  : gm_bl X d i e (.putfield 908 :: l) L (.int x :: .ref (116) :: st) (gt_h u) = gm_bl X d i e l L st (gt_h (gt_set u 54 2 x)) := by
  rw [bl_pf, pf_116_8]
  rfl
theorem bf_116_9  : gm_bl X d i e (.getfield 909 :: l) L (.ref (116) :: st) (gt_h u) = gm_bl X d i e l L (.int (u 54 3) :: st) (gt_h u) := by
  rw [bl_gf, f_116_9]
  rfl
theorem bpf_116_9  : gm_bl X d i e (.putfield 909 :: l) L (.int x :: .ref (116) :: st) (gt_h u) = gm_bl X d i e l L st (gt_h (gt_set u 54 3 x)) := by
  rw [bl_pf, pf_116_9]
  rfl
theorem bf_116_10  : gm_bl X d i e (.getfield 910 :: l) L (.ref (116) :: st) (gt_h u) = gm_bl X d i e l L (.int (u 54 4) :: st) (gt_h u) := by
  rw [bl_gf, f_116_10]
  rfl
theorem bpf_116_10  : gm_bl X d i e (.putfield 910 :: l) L (.int x :: .ref (116) :: st) (gt_h u) = gm_bl X d i e l L st (gt_h (gt_set u 54 4 x)) := by
  rw [bl_pf, pf_116_10]
  rfl
theorem bf_116_11  : gm_bl X d i e (.getfield 911 :: l) L (.ref (116) :: st) (gt_h u) = gm_bl X d i e l L (.int (u 54 5) :: st) (gt_h u) := by
  rw [bl_gf, f_116_11]
  rfl
theorem bpf_116_11_1  : gm_bl X d i e (.putfield 911 :: l) L (.int (nI 1) :: .ref (116) :: st) (gt_h u) = gm_bl X d i e l L st (gt_h (gt_set u 54 5 (nI 1))) := by
  rw [bl_pf, pf_116_11_1]
  rfl
theorem bpf_116_11_0  : gm_bl X d i e (.putfield 911 :: l) L (.int (nI 0) :: .ref (116) :: st) (gt_h u) = gm_bl X d i e l L st (gt_h (gt_set u 54 5 (nI 0))) := by
  rw [bl_pf, pf_116_11_0]
  rfl
theorem bpf_116_11_b {c : Prop} [Decidable c]  : gm_bl X d i e (.putfield 911 :: l) L (.int (bI c) :: .ref (116) :: st) (gt_h u) = gm_bl X d i e l L st (gt_h (gt_set u 54 5 (bI c))) := by
  rw [bl_pf, pf_116_11_b]
  rfl
theorem bf_116_12  : gm_bl X d i e (.getfield 912 :: l) L (.ref (116) :: st) (gt_h u) = gm_bl X d i e l L (.int (u 54 6) :: st) (gt_h u) := by
  rw [bl_gf, f_116_12]
  rfl
theorem bpf_116_12  : gm_bl X d i e (.putfield 912 :: l) L (.int x :: .ref (116) :: st) (gt_h u) = gm_bl X d i e l L st (gt_h (gt_set u 54 6 x)) := by
  rw [bl_pf, pf_116_12]
  rfl
theorem bf_116_13  : gm_bl X d i e (.getfield 913 :: l) L (.ref (116) :: st) (gt_h u) = gm_bl X d i e l L (.int (u 54 7) :: st) (gt_h u) := by
  rw [bl_gf, f_116_13]
  rfl
theorem bpf_116_13  : gm_bl X d i e (.putfield 913 :: l) L (.int x :: .ref (116) :: st) (gt_h u) = gm_bl X d i e l L st (gt_h (gt_set u 54 7 x)) := by
  rw [bl_pf, pf_116_13]
  rfl
theorem bf_116_14  : gm_bl X d i e (.getfield 914 :: l) L (.ref (116) :: st) (gt_h u) = gm_bl X d i e l L (.int (u 54 8) :: st) (gt_h u) := by
  rw [bl_gf, f_116_14]
  rfl
theorem bpf_116_14  : gm_bl X d i e (.putfield 914 :: l) L (.int x :: .ref (116) :: st) (gt_h u) = gm_bl X d i e l L st (gt_h (gt_set u 54 8 x)) := by
  rw [bl_pf, pf_116_14]
  rfl
theorem bf_116_15  : gm_bl X d i e (.getfield 915 :: l) L (.ref (116) :: st) (gt_h u) = gm_bl X d i e l L (.int (u 54 9) :: st) (gt_h u) := by
  rw [bl_gf, f_116_15]
  rfl
theorem bpf_116_15  : gm_bl X d i e (.putfield 915 :: l) L (.int x :: .ref (116) :: st) (gt_h u) = gm_bl X d i e l L st (gt_h (gt_set u 54 9 x)) := by
  rw [bl_pf, pf_116_15]
  rfl
theorem bf_116_16  : gm_bl X d i e (.getfield 916 :: l) L (.ref (116) :: st) (gt_h u) = gm_bl X d i e l L (.int (u 54 10) :: st) (gt_h u) := by
  rw [bl_gf, f_116_16]
  rfl
theorem bpf_116_16  : gm_bl X d i e (.putfield 916 :: l) L (.int x :: .ref (116) :: st) (gt_h u) = gm_bl X d i e l L st (gt_h (gt_set u 54 10 x)) := by
  rw [bl_pf, pf_116_16]
  rfl
theorem bf_116_17  : gm_bl X d i e (.getfield 917 :: l) L (.ref (116) :: st) (gt_h u) = gm_bl X d i e l L (.ref (123) :: st) (gt_h u) := by
  rw [bl_gf, f_116_17]
  rfl
theorem bf_116_18  : gm_bl X d i e (.getfield 918 :: l) L (.ref (116) :: st) (gt_h u) = gm_bl X d i e l L (.ref (124) :: st) (gt_h u) := by
  rw [bl_gf, f_116_18]
  rfl
theorem bf_116_19  : gm_bl X d i e (.getfield 919 :: l) L (.ref (116) :: st) (gt_h u) = gm_bl X d i e l L (.ref (125) :: st) (gt_h u) := by
  rw [bl_gf, f_116_19]
  rfl
theorem bf_116_20  : gm_bl X d i e (.getfield 920 :: l) L (.ref (116) :: st) (gt_h u) = gm_bl X d i e l L (.ref (126) :: st) (gt_h u) := by
  rw [bl_gf, f_116_20]
  rfl
theorem bf_116_21  : gm_bl X d i e (.getfield 921 :: l) L (.ref (116) :: st) (gt_h u) = gm_bl X d i e l L (.ref (127) :: st) (gt_h u) := by
  rw [bl_gf, f_116_21]
  rfl
theorem bf_116_22  : gm_bl X d i e (.getfield 922 :: l) L (.ref (116) :: st) (gt_h u) = gm_bl X d i e l L (.ref (128) :: st) (gt_h u) := by
  rw [bl_gf, f_116_22]
  rfl
theorem bf_116_23  : gm_bl X d i e (.getfield 923 :: l) L (.ref (116) :: st) (gt_h u) = gm_bl X d i e l L (.ref (129) :: st) (gt_h u) := by
  rw [bl_gf, f_116_23]
  rfl
theorem bf_116_24  : gm_bl X d i e (.getfield 924 :: l) L (.ref (116) :: st) (gt_h u) = gm_bl X d i e l L (.ref (130) :: st) (gt_h u) := by
  rw [bl_gf, f_116_24]
  rfl
theorem bf_116_25  : gm_bl X d i e (.getfield 925 :: l) L (.ref (116) :: st) (gt_h u) = gm_bl X d i e l L (.ref (131) :: st) (gt_h u) := by
  rw [bl_gf, f_116_25]
  rfl
theorem bf_116_26  : gm_bl X d i e (.getfield 926 :: l) L (.ref (116) :: st) (gt_h u) = gm_bl X d i e l L (.ref (132) :: st) (gt_h u) := by
  rw [bl_gf, f_116_26]
  rfl
theorem bf_116_27  : gm_bl X d i e (.getfield 927 :: l) L (.ref (116) :: st) (gt_h u) = gm_bl X d i e l L (.int (u 54 11) :: st) (gt_h u) := by
  rw [bl_gf, f_116_27]
  rfl
theorem bpf_116_27  : gm_bl X d i e (.putfield 927 :: l) L (.int x :: .ref (116) :: st) (gt_h u) = gm_bl X d i e l L st (gt_h (gt_set u 54 11 x)) := by
  rw [bl_pf, pf_116_27]
  rfl
theorem ba_zCA (hg : g < 3) (hk : k < 3) : gm_bl X d i e (.iaload :: l) L (.int (nI k) :: .ref (zCA g) :: st) (gt_h u) = gm_bl X d i e l L (.int (u g (69 + k)) :: st) (gt_h u) := by
  rw [bl_ial, a_zCA hg hk]
  rfl
theorem bw_zCA (hg : g < 3) (hk : k < 3) : gm_bl X d i e (.iastore :: l) L (.int x :: .int (nI k) :: .ref (zCA g) :: st) (gt_h u) = gm_bl X d i e l L st (gt_h (gt_set u g (69 + k) x)) := by
  rw [bl_ias, w_zCA hg hk]
  rfl
theorem ba_zTR (ht : t < 15) (hk : k < 96) : gm_bl X d i e (.iaload :: l) L (.int (nI k) :: .ref (zTR t) :: st) (gt_h u) = gm_bl X d i e l L (.int (u (21 + t) (k)) :: st) (gt_h u) := by
  rw [bl_ial, a_zTR ht hk]
  rfl
theorem bw_zTR (ht : t < 15) (hk : k < 96) : gm_bl X d i e (.iastore :: l) L (.int x :: .int (nI k) :: .ref (zTR t) :: st) (gt_h u) = gm_bl X d i e l L st (gt_h (gt_set u (21 + t) (k) x)) := by
  rw [bl_ias, w_zTR ht hk]
  rfl
theorem ba_zSP (hs : s < 4) (hk : k < 24) : gm_bl X d i e (.iaload :: l) L (.int (nI k) :: .ref (zSP s) :: st) (gt_h u) = gm_bl X d i e l L (.int (u (12 + s) (2 + k)) :: st) (gt_h u) := by
  rw [bl_ial, a_zSP hs hk]
  rfl
theorem bw_zSP (hs : s < 4) (hk : k < 24) : gm_bl X d i e (.iastore :: l) L (.int x :: .int (nI k) :: .ref (zSP s) :: st) (gt_h u) = gm_bl X d i e l L st (gt_h (gt_set u (12 + s) (2 + k) x)) := by
  rw [bl_ias, w_zSP hs hk]
  rfl
theorem ba_zLP (hs : s < 5) (hk : k < 24) : gm_bl X d i e (.iaload :: l) L (.int (nI k) :: .ref (zLP s) :: st) (gt_h u) = gm_bl X d i e l L (.int (u (16 + s) (8 + k)) :: st) (gt_h u) := by
  rw [bl_ial, a_zLP hs hk]
  rfl
theorem bw_zLP (hs : s < 5) (hk : k < 24) : gm_bl X d i e (.iastore :: l) L (.int x :: .int (nI k) :: .ref (zLP s) :: st) (gt_h u) = gm_bl X d i e l L st (gt_h (gt_set u (16 + s) (8 + k) x)) := by
  rw [bl_ias, w_zLP hs hk]
  rfl
theorem ba_18 (hk : k < 15) : gm_bl X d i e (.iaload :: l) L (.int (nI k) :: .ref (18) :: st) (gt_h u) = gm_bl X d i e l L (.int (u 3 (k)) :: st) (gt_h u) := by
  rw [bl_ial, a_18 hk]
  rfl
theorem bw_18 (hk : k < 15) : gm_bl X d i e (.iastore :: l) L (.int x :: .int (nI k) :: .ref (18) :: st) (gt_h u) = gm_bl X d i e l L st (gt_h (gt_set u 3 (k) x)) := by
  rw [bl_ias, w_18 hk]
  rfl
theorem ba_19 (hk : k < 15) : gm_bl X d i e (.iaload :: l) L (.int (nI k) :: .ref (19) :: st) (gt_h u) = gm_bl X d i e l L (.int (u 4 (k)) :: st) (gt_h u) := by
  rw [bl_ial, a_19 hk]
  rfl
theorem bw_19 (hk : k < 15) : gm_bl X d i e (.iastore :: l) L (.int x :: .int (nI k) :: .ref (19) :: st) (gt_h u) = gm_bl X d i e l L st (gt_h (gt_set u 4 (k) x)) := by
  rw [bl_ias, w_19 hk]
  rfl
theorem ba_20 (hk : k < 15) : gm_bl X d i e (.iaload :: l) L (.int (nI k) :: .ref (20) :: st) (gt_h u) = gm_bl X d i e l L (.int (u 5 (k)) :: st) (gt_h u) := by
  rw [bl_ial, a_20 hk]
  rfl
theorem bw_20 (hk : k < 15) : gm_bl X d i e (.iastore :: l) L (.int x :: .int (nI k) :: .ref (20) :: st) (gt_h u) = gm_bl X d i e l L st (gt_h (gt_set u 5 (k) x)) := by
  rw [bl_ias, w_20 hk]
  rfl
theorem ba_21 (hk : k < 96) : gm_bl X d i e (.iaload :: l) L (.int (nI k) :: .ref (21) :: st) (gt_h u) = gm_bl X d i e l L (.int (u 6 (k)) :: st) (gt_h u) := by
  rw [bl_ial, a_21 hk]
  rfl
theorem bw_21 (hk : k < 96) : gm_bl X d i e (.iastore :: l) L (.int x :: .int (nI k) :: .ref (21) :: st) (gt_h u) = gm_bl X d i e l L st (gt_h (gt_set u 6 (k) x)) := by
  rw [bl_ias, w_21 hk]
  rfl
theorem ba_83 (hk : k < 96) : gm_bl X d i e (.iaload :: l) L (.int (nI k) :: .ref (83) :: st) (gt_h u) = gm_bl X d i e l L (.int (u 8 (k)) :: st) (gt_h u) := by
  rw [bl_ial, a_83 hk]
  rfl
theorem bw_83 (hk : k < 96) : gm_bl X d i e (.iastore :: l) L (.int x :: .int (nI k) :: .ref (83) :: st) (gt_h u) = gm_bl X d i e l L st (gt_h (gt_set u 8 (k) x)) := by
  rw [bl_ias, w_83 hk]
  rfl
theorem ba_87 (hk : k < 60) : gm_bl X d i e (.iaload :: l) L (.int (nI k) :: .ref (87) :: st) (gt_h u) = gm_bl X d i e l L (.int (u 11 (k)) :: st) (gt_h u) := by
  rw [bl_ial, a_87 hk]
  rfl
theorem bw_87 (hk : k < 60) : gm_bl X d i e (.iastore :: l) L (.int x :: .int (nI k) :: .ref (87) :: st) (gt_h u) = gm_bl X d i e l L st (gt_h (gt_set u 11 (k) x)) := by
  rw [bl_ias, w_87 hk]
  rfl
theorem ba_117 (hk : k < 1469) : gm_bl X d i e (.iaload :: l) L (.int (nI k) :: .ref (117) :: st) (gt_h u) = gm_bl X d i e l L (.int (u 40 (k)) :: st) (gt_h u) := by
  rw [bl_ial, a_117 hk]
  rfl
theorem bw_117 (hk : k < 1469) : gm_bl X d i e (.iastore :: l) L (.int x :: .int (nI k) :: .ref (117) :: st) (gt_h u) = gm_bl X d i e l L st (gt_h (gt_set u 40 (k) x)) := by
  rw [bl_ias, w_117 hk]
  rfl
theorem ba_118 (hk : k < 1469) : gm_bl X d i e (.iaload :: l) L (.int (nI k) :: .ref (118) :: st) (gt_h u) = gm_bl X d i e l L (.int (u 41 (k)) :: st) (gt_h u) := by
  rw [bl_ial, a_118 hk]
  rfl
theorem bw_118 (hk : k < 1469) : gm_bl X d i e (.iastore :: l) L (.int x :: .int (nI k) :: .ref (118) :: st) (gt_h u) = gm_bl X d i e l L st (gt_h (gt_set u 41 (k) x)) := by
  rw [bl_ias, w_118 hk]
  rfl
theorem ba_119 (hk : k < 69) : gm_bl X d i e (.iaload :: l) L (.int (nI k) :: .ref (119) :: st) (gt_h u) = gm_bl X d i e l L (.int (u 42 (k)) :: st) (gt_h u) := by
  rw [bl_ial, a_119 hk]
  rfl
theorem bw_119 (hk : k < 69) : gm_bl X d i e (.iastore :: l) L (.int x :: .int (nI k) :: .ref (119) :: st) (gt_h u) = gm_bl X d i e l L st (gt_h (gt_set u 42 (k) x)) := by
  rw [bl_ias, w_119 hk]
  rfl
theorem ba_120 (hk : k < 96) : gm_bl X d i e (.iaload :: l) L (.int (nI k) :: .ref (120) :: st) (gt_h u) = gm_bl X d i e l L (.int (u 43 (k)) :: st) (gt_h u) := by
  rw [bl_ial, a_120 hk]
  rfl
theorem bw_120 (hk : k < 96) : gm_bl X d i e (.iastore :: l) L (.int x :: .int (nI k) :: .ref (120) :: st) (gt_h u) = gm_bl X d i e l L st (gt_h (gt_set u 43 (k) x)) := by
  rw [bl_ias, w_120 hk]
  rfl
theorem ba_123 (hk : k < 100) : gm_bl X d i e (.iaload :: l) L (.int (nI k) :: .ref (123) :: st) (gt_h u) = gm_bl X d i e l L (.int (u 44 (k)) :: st) (gt_h u) := by
  rw [bl_ial, a_123 hk]
  rfl
theorem bw_123 (hk : k < 100) : gm_bl X d i e (.iastore :: l) L (.int x :: .int (nI k) :: .ref (123) :: st) (gt_h u) = gm_bl X d i e l L st (gt_h (gt_set u 44 (k) x)) := by
  rw [bl_ias, w_123 hk]
  rfl
theorem ba_124 (hk : k < 3) : gm_bl X d i e (.iaload :: l) L (.int (nI k) :: .ref (124) :: st) (gt_h u) = gm_bl X d i e l L (.int (u 45 (k)) :: st) (gt_h u) := by
  rw [bl_ial, a_124 hk]
  rfl
theorem bw_124 (hk : k < 3) : gm_bl X d i e (.iastore :: l) L (.int x :: .int (nI k) :: .ref (124) :: st) (gt_h u) = gm_bl X d i e l L st (gt_h (gt_set u 45 (k) x)) := by
  rw [bl_ias, w_124 hk]
  rfl
theorem ba_125 (hk : k < 100) : gm_bl X d i e (.iaload :: l) L (.int (nI k) :: .ref (125) :: st) (gt_h u) = gm_bl X d i e l L (.int (u 46 (k)) :: st) (gt_h u) := by
  rw [bl_ial, a_125 hk]
  rfl
theorem bw_125 (hk : k < 100) : gm_bl X d i e (.iastore :: l) L (.int x :: .int (nI k) :: .ref (125) :: st) (gt_h u) = gm_bl X d i e l L st (gt_h (gt_set u 46 (k) x)) := by
  rw [bl_ias, w_125 hk]
  rfl
theorem ba_126 (hk : k < 4) : gm_bl X d i e (.iaload :: l) L (.int (nI k) :: .ref (126) :: st) (gt_h u) = gm_bl X d i e l L (.int (u 47 (k)) :: st) (gt_h u) := by
  rw [bl_ial, a_126 hk]
  rfl
theorem bw_126 (hk : k < 4) : gm_bl X d i e (.iastore :: l) L (.int x :: .int (nI k) :: .ref (126) :: st) (gt_h u) = gm_bl X d i e l L st (gt_h (gt_set u 47 (k) x)) := by
  rw [bl_ias, w_126 hk]
  rfl
theorem ba_127 (hk : k < 4) : gm_bl X d i e (.iaload :: l) L (.int (nI k) :: .ref (127) :: st) (gt_h u) = gm_bl X d i e l L (.int (u 48 (k)) :: st) (gt_h u) := by
  rw [bl_ial, a_127 hk]
  rfl
theorem bw_127 (hk : k < 4) : gm_bl X d i e (.iastore :: l) L (.int x :: .int (nI k) :: .ref (127) :: st) (gt_h u) = gm_bl X d i e l L st (gt_h (gt_set u 48 (k) x)) := by
  rw [bl_ias, w_127 hk]
  rfl
theorem ba_128 (hk : k < 96) : gm_bl X d i e (.iaload :: l) L (.int (nI k) :: .ref (128) :: st) (gt_h u) = gm_bl X d i e l L (.int (u 49 (k)) :: st) (gt_h u) := by
  rw [bl_ial, a_128 hk]
  rfl
theorem bw_128 (hk : k < 96) : gm_bl X d i e (.iastore :: l) L (.int x :: .int (nI k) :: .ref (128) :: st) (gt_h u) = gm_bl X d i e l L st (gt_h (gt_set u 49 (k) x)) := by
  rw [bl_ias, w_128 hk]
  rfl
theorem ba_129 (hk : k < 24) : gm_bl X d i e (.iaload :: l) L (.int (nI k) :: .ref (129) :: st) (gt_h u) = gm_bl X d i e l L (.int (u 50 (k)) :: st) (gt_h u) := by
  rw [bl_ial, a_129 hk]
  rfl
theorem bw_129 (hk : k < 24) : gm_bl X d i e (.iastore :: l) L (.int x :: .int (nI k) :: .ref (129) :: st) (gt_h u) = gm_bl X d i e l L st (gt_h (gt_set u 50 (k) x)) := by
  rw [bl_ias, w_129 hk]
  rfl
theorem ba_130 (hk : k < 5) : gm_bl X d i e (.iaload :: l) L (.int (nI k) :: .ref (130) :: st) (gt_h u) = gm_bl X d i e l L (.int (u 51 (k)) :: st) (gt_h u) := by
  rw [bl_ial, a_130 hk]
  rfl
theorem bw_130 (hk : k < 5) : gm_bl X d i e (.iastore :: l) L (.int x :: .int (nI k) :: .ref (130) :: st) (gt_h u) = gm_bl X d i e l L st (gt_h (gt_set u 51 (k) x)) := by
  rw [bl_ias, w_130 hk]
  rfl
theorem ba_131 (hk : k < 125) : gm_bl X d i e (.iaload :: l) L (.int (nI k) :: .ref (131) :: st) (gt_h u) = gm_bl X d i e l L (.int (u 52 (k)) :: st) (gt_h u) := by
  rw [bl_ial, a_131 hk]
  rfl
theorem bw_131 (hk : k < 125) : gm_bl X d i e (.iastore :: l) L (.int x :: .int (nI k) :: .ref (131) :: st) (gt_h u) = gm_bl X d i e l L st (gt_h (gt_set u 52 (k) x)) := by
  rw [bl_ias, w_131 hk]
  rfl
theorem ba_132 (hk : k < 60) : gm_bl X d i e (.iaload :: l) L (.int (nI k) :: .ref (132) :: st) (gt_h u) = gm_bl X d i e l L (.int (u 53 (k)) :: st) (gt_h u) := by
  rw [bl_ial, a_132 hk]
  rfl
theorem bw_132 (hk : k < 60) : gm_bl X d i e (.iastore :: l) L (.int x :: .int (nI k) :: .ref (132) :: st) (gt_h u) = gm_bl X d i e l L st (gt_h (gt_set u 53 (k) x)) := by
  rw [bl_ias, w_132 hk]
  rfl
theorem br_zBA (hg : g < 3) (hk : k < 8) : gm_bl X d i e (.aaload :: l) L (.int (nI k) :: .ref (zBA g) :: st) (gt_h u) = gm_bl X d i e l L (.ref (zBC g k) :: st) (gt_h u) := by
  rw [bl_aal, r_zBA hg hk]
  rfl
theorem br_zDA (hg : g < 3) (hk : k < 8) : gm_bl X d i e (.aaload :: l) L (.int (nI k) :: .ref (zDA g) :: st) (gt_h u) = gm_bl X d i e l L (.ref (zDC g k) :: st) (gt_h u) := by
  rw [bl_aal, r_zDA hg hk]
  rfl
theorem br_2 (hk : k < 15) : gm_bl X d i e (.aaload :: l) L (.int (nI k) :: .ref (2) :: st) (gt_h u) = gm_bl X d i e l L (.ref (zTR k) :: st) (gt_h u) := by
  rw [bl_aal, r_2 hk]
  rfl
theorem br_85 (hk : k < 4) : gm_bl X d i e (.aaload :: l) L (.int (nI k) :: .ref (85) :: st) (gt_h u) = gm_bl X d i e l L (.ref (zSC k) :: st) (gt_h u) := by
  rw [bl_aal, r_85 hk]
  rfl
theorem br_86 (hk : k < 5) : gm_bl X d i e (.aaload :: l) L (.int (nI k) :: .ref (86) :: st) (gt_h u) = gm_bl X d i e l L (.ref (zLC k) :: st) (gt_h u) := by
  rw [bl_aal, r_86 hk]
  rfl
theorem br_121 (hk : k < 3) : gm_bl X d i e (.aaload :: l) L (.int (nI k) :: .ref 121 :: st) (gt_h u) = gm_bl X d i e l L (.ref (10030 + (2 * k + 1)) :: st) (gt_h u) := by
  rw [bl_aal, r_121 hk]
  rfl
theorem br_122 (hk : k < 3) : gm_bl X d i e (.aaload :: l) L (.int (nI k) :: .ref 122 :: st) (gt_h u) = gm_bl X d i e l L (.ref (10030 + (2 * k + 2)) :: st) (gt_h u) := by
  rw [bl_aal, r_122 hk]
  rfl
theorem bf_S0 (hk : k < 7) : gm_bl X d i e (.getfield 2000 :: l) L (.ref (10030 + k) :: st) (gt_h u) = gm_bl X d i e l L (.ref (10010 + k) :: st) (gt_h u) := by
  rw [bl_gf, f_S0 hk]
  rfl
theorem bf_S1 (hk : k < 7) : gm_bl X d i e (.getfield 2001 :: l) L (.ref (10030 + k) :: st) (gt_h u) = gm_bl X d i e l L (.int (nI 0) :: st) (gt_h u) := by
  rw [bl_gf, f_S1 hk]
  rfl
end FU
