theorem gm_all_app {a b : List gm_CE} {f : gm_CE → Bool} (h : a.all f = true) (k : b.all f = true) : (a ++ b).all f = true := by rw [List.all_append, h, k]; rfl
theorem gm_k223 : gm_c223.all (gm_chk 223) = true := (gm_all_app gm_k223_0 (gm_all_app gm_k223_1 (gm_all_app gm_k223_2 (gm_all_app gm_k223_3 (gm_all_app gm_k223_4 (gm_all_app gm_k223_5 (gm_all_app gm_k223_6 (gm_all_app gm_k223_7 (gm_all_app gm_k223_8 (gm_all_app gm_k223_9 (gm_all_app gm_k223_10 (gm_all_app gm_k223_11 (gm_all_app gm_k223_12 (gm_all_app gm_k223_13 (gm_all_app gm_k223_14 (gm_all_app gm_k223_15 (gm_all_app gm_k223_16 (gm_all_app gm_k223_17 (gm_all_app gm_k223_18 (gm_all_app gm_k223_19 (gm_all_app gm_k223_20 (gm_all_app gm_k223_21 (gm_all_app gm_k223_22 (gm_all_app gm_k223_23 (gm_all_app gm_k223_24 gm_k223_25)))))))))))))))))))))))))
def gm_okL (n : Nat) (l : List (List gm_CE)) : Prop := ∀ (k : Nat) (c : List gm_CE), l[k]? = some c → c.all (gm_chk (n + k)) = true
theorem gm_okL_nil (n : Nat) : gm_okL n [] := fun k c h => by simp at h
theorem gm_okL_cons {n : Nat} {c : List gm_CE} {l : List (List gm_CE)} (h : c.all (gm_chk n) = true) (hl : gm_okL (n + 1) l) : gm_okL n (c :: l) := by
  intro k c' hk
  cases k with
  | zero => cases hk; exact h
  | succ k => have := hl k c' (by simpa using hk); rw [show n + (k + 1) = n + 1 + k by omega]; exact this
theorem gm_okL_app {n : Nat} {a b : List (List gm_CE)} (ha : gm_okL n a) (hb : gm_okL (n + a.length) b) : gm_okL n (a ++ b) := by
  intro k c hk
  by_cases hl : k < a.length
  · rw [List.getElem?_append_left hl] at hk; exact ha k c hk
  · rw [List.getElem?_append_right (by omega)] at hk
    have := hb _ c hk
    rw [show n + a.length + (k - a.length) = n + k by omega] at this
    exact this
theorem gm_okd0 : gm_okL 0 gm_cd0 := gm_okL_cons gm_k0 (gm_okL_cons gm_k1 (gm_okL_cons gm_k2 (gm_okL_cons gm_k3 (gm_okL_cons gm_k4 (gm_okL_cons gm_k5 (gm_okL_cons gm_k6 (gm_okL_cons gm_k7 (gm_okL_cons gm_k8 (gm_okL_cons gm_k9 (gm_okL_cons gm_k10 (gm_okL_cons gm_k11 (gm_okL_cons gm_k12 (gm_okL_cons gm_k13 (gm_okL_cons gm_k14 (gm_okL_cons gm_k15 (gm_okL_cons gm_k16 (gm_okL_cons gm_k17 (gm_okL_cons gm_k18 (gm_okL_cons gm_k19 (gm_okL_cons gm_k20 (gm_okL_cons gm_k21 (gm_okL_cons gm_k22 (gm_okL_cons gm_k23 (gm_okL_cons gm_k24 (gm_okL_cons gm_k25 (gm_okL_cons gm_k26 (gm_okL_cons gm_k27 (gm_okL_nil 28))))))))))))))))))))))))))))
theorem gm_okd1 : gm_okL 28 gm_cd1 := gm_okL_cons gm_k28 (gm_okL_cons gm_k29 (gm_okL_cons gm_k30 (gm_okL_cons gm_k31 (gm_okL_cons gm_k32 (gm_okL_cons gm_k33 (gm_okL_cons gm_k34 (gm_okL_cons gm_k35 (gm_okL_cons gm_k36 (gm_okL_cons gm_k37 (gm_okL_cons gm_k38 (gm_okL_cons gm_k39 (gm_okL_cons gm_k40 (gm_okL_cons gm_k41 (gm_okL_cons gm_k42 (gm_okL_cons gm_k43 (gm_okL_cons gm_k44 (gm_okL_cons gm_k45 (gm_okL_cons gm_k46 (gm_okL_cons gm_k47 (gm_okL_cons gm_k48 (gm_okL_cons gm_k49 (gm_okL_cons gm_k50 (gm_okL_cons gm_k51 (gm_okL_cons gm_k52 (gm_okL_cons gm_k53 (gm_okL_cons gm_k54 (gm_okL_cons gm_k55 (gm_okL_nil 56))))))))))))))))))))))))))))
theorem gm_okd2 : gm_okL 56 gm_cd2 := gm_okL_cons gm_k56 (gm_okL_cons gm_k57 (gm_okL_cons gm_k58 (gm_okL_cons gm_k59 (gm_okL_cons gm_k60 (gm_okL_cons gm_k61 (gm_okL_cons gm_k62 (gm_okL_cons gm_k63 (gm_okL_cons gm_k64 (gm_okL_cons gm_k65 (gm_okL_cons gm_k66 (gm_okL_cons gm_k67 (gm_okL_cons gm_k68 (gm_okL_cons gm_k69 (gm_okL_cons gm_k70 (gm_okL_cons gm_k71 (gm_okL_cons gm_k72 (gm_okL_cons gm_k73 (gm_okL_cons gm_k74 (gm_okL_cons gm_k75 (gm_okL_cons gm_k76 (gm_okL_cons gm_k77 (gm_okL_cons gm_k78 (gm_okL_cons gm_k79 (gm_okL_cons gm_k80 (gm_okL_cons gm_k81 (gm_okL_cons gm_k82 (gm_okL_cons gm_k83 (gm_okL_nil 84))))))))))))))))))))))))))))
theorem gm_okd3 : gm_okL 84 gm_cd3 := gm_okL_cons gm_k84 (gm_okL_cons gm_k85 (gm_okL_cons gm_k86 (gm_okL_cons gm_k87 (gm_okL_cons gm_k88 (gm_okL_cons gm_k89 (gm_okL_cons gm_k90 (gm_okL_cons gm_k91 (gm_okL_cons gm_k92 (gm_okL_cons gm_k93 (gm_okL_cons gm_k94 (gm_okL_cons gm_k95 (gm_okL_cons gm_k96 (gm_okL_cons gm_k97 (gm_okL_cons gm_k98 (gm_okL_cons gm_k99 (gm_okL_cons gm_k100 (gm_okL_cons gm_k101 (gm_okL_cons gm_k102 (gm_okL_cons gm_k103 (gm_okL_cons gm_k104 (gm_okL_cons gm_k105 (gm_okL_cons gm_k106 (gm_okL_cons gm_k107 (gm_okL_cons gm_k108 (gm_okL_cons gm_k109 (gm_okL_cons gm_k110 (gm_okL_cons gm_k111 (gm_okL_nil 112))))))))))))))))))))))))))))
theorem gm_okd4 : gm_okL 112 gm_cd4 := gm_okL_cons gm_k112 (gm_okL_cons gm_k113 (gm_okL_cons gm_k114 (gm_okL_cons gm_k115 (gm_okL_cons gm_k116 (gm_okL_cons gm_k117 (gm_okL_cons gm_k118 (gm_okL_cons gm_k119 (gm_okL_cons gm_k120 (gm_okL_cons gm_k121 (gm_okL_cons gm_k122 (gm_okL_cons gm_k123 (gm_okL_cons gm_k124 (gm_okL_cons gm_k125 (gm_okL_cons gm_k126 (gm_okL_cons gm_k127 (gm_okL_cons gm_k128 (gm_okL_cons gm_k129 (gm_okL_cons gm_k130 (gm_okL_cons gm_k131 (gm_okL_cons gm_k132 (gm_okL_cons gm_k133 (gm_okL_cons gm_k134 (gm_okL_cons gm_k135 (gm_okL_cons gm_k136 (gm_okL_cons gm_k137 (gm_okL_cons gm_k138 (gm_okL_cons gm_k139 (gm_okL_nil 140))))))))))))))))))))))))))))
theorem gm_okd5 : gm_okL 140 gm_cd5 := gm_okL_cons gm_k140 (gm_okL_cons gm_k141 (gm_okL_cons gm_k142 (gm_okL_cons gm_k143 (gm_okL_cons gm_k144 (gm_okL_cons gm_k145 (gm_okL_cons gm_k146 (gm_okL_cons gm_k147 (gm_okL_cons gm_k148 (gm_okL_cons gm_k149 (gm_okL_cons gm_k150 (gm_okL_cons gm_k151 (gm_okL_cons gm_k152 (gm_okL_cons gm_k153 (gm_okL_cons gm_k154 (gm_okL_cons gm_k155 (gm_okL_cons gm_k156 (gm_okL_cons gm_k157 (gm_okL_cons gm_k158 (gm_okL_cons gm_k159 (gm_okL_cons gm_k160 (gm_okL_cons gm_k161 (gm_okL_cons gm_k162 (gm_okL_cons gm_k163 (gm_okL_cons gm_k164 (gm_okL_cons gm_k165 (gm_okL_cons gm_k166 (gm_okL_cons gm_k167 (gm_okL_nil 168))))))))))))))))))))))))))))
theorem gm_okd6 : gm_okL 168 gm_cd6 := gm_okL_cons gm_k168 (gm_okL_cons gm_k169 (gm_okL_cons gm_k170 (gm_okL_cons gm_k171 (gm_okL_cons gm_k172 (gm_okL_cons gm_k173 (gm_okL_cons gm_k174 (gm_okL_cons gm_k175 (gm_okL_cons gm_k176 (gm_okL_cons gm_k177 (gm_okL_cons gm_k178 (gm_okL_cons gm_k179 (gm_okL_cons gm_k180 (gm_okL_cons gm_k181 (gm_okL_cons gm_k182 (gm_okL_cons gm_k183 (gm_okL_cons gm_k184 (gm_okL_cons gm_k185 (gm_okL_cons gm_k186 (gm_okL_cons gm_k187 (gm_okL_cons gm_k188 (gm_okL_cons gm_k189 (gm_okL_cons gm_k190 (gm_okL_cons gm_k191 (gm_okL_cons gm_k192 (gm_okL_cons gm_k193 (gm_okL_cons gm_k194 (gm_okL_cons gm_k195 (gm_okL_nil 196))))))))))))))))))))))))))))
theorem gm_okd7 : gm_okL 196 gm_cd7 := gm_okL_cons gm_k196 (gm_okL_cons gm_k197 (gm_okL_cons gm_k198 (gm_okL_cons gm_k199 (gm_okL_cons gm_k200 (gm_okL_cons gm_k201 (gm_okL_cons gm_k202 (gm_okL_cons gm_k203 (gm_okL_cons gm_k204 (gm_okL_cons gm_k205 (gm_okL_cons gm_k206 (gm_okL_cons gm_k207 (gm_okL_cons gm_k208 (gm_okL_cons gm_k209 (gm_okL_cons gm_k210 (gm_okL_cons gm_k211 (gm_okL_cons gm_k212 (gm_okL_cons gm_k213 (gm_okL_cons gm_k214 (gm_okL_cons gm_k215 (gm_okL_cons gm_k216 (gm_okL_cons gm_k217 (gm_okL_cons gm_k218 (gm_okL_cons gm_k219 (gm_okL_cons gm_k220 (gm_okL_cons gm_k221 (gm_okL_cons gm_k222 (gm_okL_cons gm_k223 (gm_okL_nil 224))))))))))))))))))))))))))))
theorem gm_okd : gm_okL 0 gm_cd := gm_okL_app gm_okd0 (gm_okL_app gm_okd1 (gm_okL_app gm_okd2 (gm_okL_app gm_okd3 (gm_okL_app gm_okd4 (gm_okL_app gm_okd5 (gm_okL_app gm_okd6 (gm_okd7)))))))
theorem gm_at_ok {i pc nx : Nat} {op : Instr} (h : gm_at i pc = some (op, nx)) : ∃ (real : Instr) (len : Nat), nx = pc + len ∧ decode (gm_by i) pc = .ok (real, len) ∧ gm_res (gm_mc i) (decide ((gm_y i).name = "<init>")) pc real len op = true := by
  unfold gm_at gm_code at h
  rw [List.getD_eq_getElem?_getD] at h
  cases hc : gm_cd[i]? with
  | none => rw [hc] at h; simp at h
  | some c =>
    rw [hc] at h
    simp only [Option.getD_some, Option.map_eq_some_iff] at h
    obtain ⟨e, he, hq⟩ := h
    have hm := List.mem_of_find?_eq_some he
    have hpc := List.find?_some he
    have h1 := List.all_eq_true.mp (gm_okd i c hc) e hm
    rw [Nat.zero_add] at h1
    simp only [gm_chk, Bool.and_eq_true, decide_eq_true_eq] at h1
    simp only [Prod.mk.injEq] at hq
    have hpc : e.1 = pc := by simpa using hpc
    obtain ⟨h2, h3⟩ := h1
    rw [hpc] at h2 h3
    exact ⟨e.2.1, e.2.2.1, by rw [← hq.2, hpc], h2, by rw [← hq.1]; exact h3⟩
