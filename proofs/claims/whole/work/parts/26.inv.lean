-- what stands between calls: class and reference side by side
def tX (u : gt_M) (b t : Nat) : Prop := ∃ k n, k < 3 ∧ n ≤ 96 ∧ u 4 t = nI k ∧ u b (69 + 100 * t + 0) = nI k ∧ u 5 t = u b (69 + 100 * t + 1) ∧ u 3 t = nI n ∧ u b (69 + 100 * t + 2) = nI n ∧ (∀ j, j < n → cR (if k = 2 then 2 else 3) (u (21 + t) j) (u b (69 + 100 * t + 3 + j))) ∧ wfS (u (21 + t)) n 0 0
def cN (u : gt_M) (g b c : Nat) : Prop := ∀ j, j < 3 → (lstS (fun t => u b (69 + 100 * t + 0)) (nI j) c 0 (-1) = -1 ∧ u g (69 + j) = -1000000005) ∨ (∃ t, t < c ∧ lstS (fun t => u b (69 + 100 * t + 0)) (nI j) c 0 (-1) = nI t ∧ u g (69 + j) = nI t ∧ u b (69 + 100 * t + 0) = nI j)
def gS (u : gt_M) (g b n m c : Nat) : Prop := gR u g (u b) n m ∧ gB (u b) n m 9999 ∧ u b 12 = nI c ∧ c ≤ 14 ∧ (∀ t, t < c → tX u b t) ∧ cN u g b c
def iK (u : gt_M) : Prop := (u 10 1 = nI 0 ∧ u 54 0 = nI 0) ∨ (u 10 1 = nI 1 ∧ u 54 0 = nI 1 ∧ ∃ n m c e, gS u 2 41 n m c ∧ u 40 12 = nI e ∧ c ≤ e ∧ e ≤ 14)
def pV (x : Int32) : Prop := x = -1000000005 ∨ (-99999 ≤ x.toInt ∧ x.toInt ≤ 99999)
def iS1 (u : gt_M) (s : Nat) : Prop := u (12 + s) 0 = u 47 s ∧ (∃ z, z ≤ 24 ∧ u (12 + s) 1 = nI z ∧ u 48 s = nI z) ∧ (u 47 s = -1 ∨ u 47 s = nI 0 ∨ u 47 s = nI 1) ∧ ∀ k, k < 24 → u (12 + s) (2 + k) = u 49 (24 * s + k) ∧ pV (u 49 (24 * s + k))
def iS (u : gt_M) : Prop := ∀ s, s < 4 → iS1 u s
def iL1 (u : gt_M) (s : Nat) : Prop := ∃ t, t < 4 ∧ u (16 + s) 0 = nI t ∧ u 51 s = nI t ∧ (t = 1 → (∃ k, k < 6 ∧ u (16 + s) 2 = nI k) ∧ ∀ k, k < 3 → u (16 + s) (2 + k) = u 52 (25 * s + k)) ∧ (t = 2 → (∃ z, z ≤ 24 ∧ u (16 + s) 7 = nI z ∧ u 52 (25 * s) = nI z) ∧ ∀ k, k < 24 → u (16 + s) (8 + k) = u 52 (25 * s + 1 + k)) ∧ (t = 3 → u (16 + s) 1 = u 52 (25 * s))
def iL (u : gt_M) : Prop := ∀ s, s < 5 → iL1 u s
def iT (u : gt_M) : Prop := ∃ c, c ≤ 96 ∧ u 7 0 = nI c ∧ u 54 1 = nI c ∧ ∀ k, k < c → u 8 k = u 43 k ∧ ∃ v, v < 256 ∧ u 43 k = nI v
def iW (u : gt_M) : Prop := ∃ c, c ≤ 60 ∧ u 10 0 = nI c ∧ u 54 11 = nI c ∧ ∀ k, k < c → u 11 k = u 53 k
def Inv (u : gt_M) : Prop := (∃ n m c, gS u 0 40 n m c) ∧ iK u ∧ iS u ∧ iL u ∧ iT u ∧ iW u
section C26
variable {X : List Int32} {u u' : gt_M} {g b n m c d q : Nat} {w : Nat → Int32} {T : gT}
theorem tX_eq {t : Nat} (h : tX u b t) (e3 : u' 3 t = u 3 t) (e4 : u' 4 t = u 4 t) (e5 : u' 5 t = u 5 t) (e21 : u' (21 + t) = u (21 + t)) (eb : ∀ o, 69 + 100 * t ≤ o → o < 169 + 100 * t → u' b o = u b o) : tX u' b t := by
  obtain ⟨k, n, h1, h2, h3, h4, h5, h6, h7, h8, h9⟩ := h
  refine ⟨k, n, h1, h2, by rw [e4, h3], by rw [eb _ (by omega) (by omega), h4], by rw [e5, eb _ (by omega) (by omega), h5], by rw [e3, h6], by rw [eb _ (by omega) (by omega), h7], fun j hj => by rw [e21, eb _ (by omega) (by omega)]; exact h8 j hj, by rw [e21]; exact h9⟩
theorem cN_eq (h : cN u g b c) (eg : ∀ j, j < 3 → u' g (69 + j) = u g (69 + j)) (eb : ∀ o, 69 ≤ o → u' b o = u b o) : cN u' g b c := by
  intro j hj
  have e : (fun t => u' b (69 + 100 * t + 0)) = fun t => u b (69 + 100 * t + 0) := funext fun t => eb _ (by omega)
  rw [e, eg j hj]
  rcases h j hj with q | ⟨t, h1, h2, h3, h4⟩
  · exact .inl q
  · exact .inr ⟨t, h1, h2, h3, by rw [eb _ (by omega)]; exact h4⟩
theorem gB_R {D : Nat} (hR : gR u b w n m) (h : gB w n m D) : gB (u b) n m D := by
  obtain ⟨⟨h1, h2, h3, h4, h5⟩, h6, h7, h8, h9⟩ := h
  have e1 := hR 1 (by omega)
  refine ⟨⟨h1, h2, by rw [hR 10 (by omega)]; exact h3, by rw [hR 11 (by omega)]; exact h4, fun j hj => by rw [hR _ (by omega)]; exact h5 j hj⟩, fun i hi => ?_, fun j hj => ?_, by rw [e1]; exact h8, by rw [e1]; exact h9⟩
  · have y := h6 i hi
    unfold btB at y ⊢
    rw [hR _ (by omega), hR _ (by omega), hR _ (by omega), hR _ (by omega)]
    exact y
  · have y := h7 j hj
    unfold bdB at y ⊢
    rw [hR _ (by omega), hR _ (by omega), e1]
    exact y
theorem gS_eq (h : gS u g b n m c) (eg : u' g = u g) (eb : u' b = u b) (e3 : u' 3 = u 3) (e4 : u' 4 = u 4) (e5 : u' 5 = u 5) (e21 : ∀ t, t < 14 → u' (21 + t) = u (21 + t)) : gS u' g b n m c := by
  obtain ⟨h1, h2, h3, h4, h5, h6⟩ := h
  refine ⟨fun o ho => by rw [eg, eb]; exact h1 o ho, by rw [eb]; exact h2, by rw [eb]; exact h3, h4, fun t ht => tX_eq (h5 t ht) (by rw [e3]) (by rw [e4]) (by rw [e5]) (e21 t (by omega)) (fun o _ _ => by rw [eb]), cN_eq h6 (fun j _ => by rw [eg]) (fun o _ => by rw [eb])⟩
theorem iK_eq (h : iK u) (e10 : u' 10 1 = u 10 1) (e54 : u' 54 0 = u 54 0) (e2 : u' 2 = u 2) (e41 : u' 41 = u 41) (e40 : u' 40 12 = u 40 12) (e3 : u' 3 = u 3) (e4 : u' 4 = u 4) (e5 : u' 5 = u 5) (e21 : ∀ t, t < 14 → u' (21 + t) = u (21 + t)) : iK u' := by
  unfold iK at h ⊢
  rw [e10, e54, e40]
  rcases h with h | ⟨h1, h2, n, m, c, e, h3, h4⟩
  · exact .inl h
  · exact .inr ⟨h1, h2, n, m, c, e, gS_eq h3 e2 e41 e3 e4 e5 e21, h4⟩
theorem iS_eq (h : iS u) (e : ∀ s, s < 4 → u' (12 + s) = u (12 + s)) (e47 : u' 47 = u 47) (e48 : u' 48 = u 48) (e49 : u' 49 = u 49) : iS u' := by
  intro s hs
  have y := h s hs
  unfold iS1 at y ⊢
  rw [e s hs, e47, e48, e49]
  exact y
theorem iL_eq (h : iL u) (e : ∀ s, s < 5 → u' (16 + s) = u (16 + s)) (e51 : u' 51 = u 51) (e52 : u' 52 = u 52) : iL u' := by
  intro s hs
  have y := h s hs
  unfold iL1 at y ⊢
  rw [e s hs, e51, e52]
  exact y
theorem iT_eq (h : iT u) (e7 : u' 7 0 = u 7 0) (e54 : u' 54 1 = u 54 1) (e8 : u' 8 = u 8) (e43 : u' 43 = u 43) : iT u' := by
  unfold iT at h ⊢
  rw [e7, e54, e8, e43]
  exact h
theorem iW_eq (h : iW u) (e10 : u' 10 0 = u 10 0) (e54 : u' 54 11 = u 54 11) (e11 : u' 11 = u 11) (e53 : u' 53 = u 53) : iW u' := by
  unfold iW at h ⊢
  rw [e10, e54, e11, e53]
  exact h
/-- nothing that counts has changed -/
def qt (u u' : gt_M) : Prop := ∀ b, b ≠ 1 → b ≠ 6 → b ≠ 42 → b ≠ 45 → b ≠ 46 → u' b = u b
theorem Inv_g (h : Inv u) (hq : ∀ b, b ≠ 0 → b ≠ 40 → b ≠ 1 → b ≠ 6 → b ≠ 42 → b ≠ 45 → b ≠ 46 → u' b = u b) (h0 : ∀ o, 69 ≤ o → u' 0 o = u 0 o) (h40 : ∀ o, 69 ≤ o → u' 40 o = u 40 o) (h12 : u' 40 12 = u 40 12) (hR : gR u' 0 (u' 40) n m) (hB : gB (u' 40) n m 9999) : Inv u' := by
  have e := fun b => hq b
  obtain ⟨⟨n0, m0, c, a1, a2, a3, a4, a5, a6⟩, hK, hS, hL, hT, hW⟩ := h
  refine ⟨⟨n, m, c, hR, hB, by rw [h12]; exact a3, a4, fun t ht => tX_eq (a5 t ht) (by rw [hq 3 (by omega) (by omega) (by omega) (by omega) (by omega) (by omega) (by omega)]) (by rw [hq 4 (by omega) (by omega) (by omega) (by omega) (by omega) (by omega) (by omega)]) (by rw [hq 5 (by omega) (by omega) (by omega) (by omega) (by omega) (by omega) (by omega)]) (hq (21 + t) (by omega) (by omega) (by omega) (by omega) (by omega) (by omega) (by omega)) (fun o ho _ => h40 o (by omega)), cN_eq a6 (fun j _ => h0 _ (by omega)) h40⟩, iK_eq hK ?_ ?_ ?_ ?_ h12 ?_ ?_ ?_ ?_, iS_eq hS ?_ ?_ ?_ ?_, iL_eq hL ?_ ?_ ?_, iT_eq hT ?_ ?_ ?_ ?_, iW_eq hW ?_ ?_ ?_ ?_⟩
  all_goals first | (intro t ht; exact hq _ (by omega) (by omega) (by omega) (by omega) (by omega) (by omega) (by omega)) | exact hq _ (by omega) (by omega) (by omega) (by omega) (by omega) (by omega) (by omega) | exact congrFun (hq _ (by omega) (by omega) (by omega) (by omega) (by omega) (by omega) (by omega)) _
theorem Inv_q (h : Inv u) (hq : qt u u') : Inv u' := by
  obtain ⟨n, m, c, a1, a2, a3⟩ := h.1
  have e0 := hq 0 (by omega) (by omega) (by omega) (by omega) (by omega)
  have e40 := hq 40 (by omega) (by omega) (by omega) (by omega) (by omega)
  exact Inv_g (n := n) (m := m) h (fun b _ _ => hq b) (fun o _ => by rw [e0]) (fun o _ => by rw [e40]) (by rw [e40]) (fun o ho => by rw [e0, e40]; exact a1 o ho) (by rw [e40]; exact a2)
theorem qt_refl : qt u u := fun _ _ _ _ _ _ => rfl
theorem cR_le {J J' : Nat} {x y : Int32} (h : J ≤ J') (k : cR J x y) : cR J' x y := by
  rcases k with k | ⟨j, h1, h2, h3⟩ | k | k
  · exact .inl k
  · exact .inr (.inl ⟨j, by omega, h2, h3⟩)
  · exact .inr (.inr (.inl k))
  · exact .inr (.inr (.inr k))
/-- what the texts that count give -/
def gTx (u : gt_M) (g : Nat) : gT := fun j => if u g (69 + j) = -1000000005 then none else some (gv (u (21 + (u g (69 + j)).toNatClampNeg)) (u 3 (u g (69 + j)).toNatClampNeg).toNatClampNeg)
theorem gS_T (h : gS u g b n m c) : cT u g (gTx u g) ∧ ∀ u' : gt_M, (∀ o, 69 ≤ o → u' 40 o = u b o) → mT u' (gTx u g) c := by
  obtain ⟨h1, h2, h3, h4, h5, h6⟩ := h
  constructor
  · intro j hj
    rcases h6 j hj with ⟨a1, a2⟩ | ⟨t, a1, a2, a3, a4⟩
    · exact .inl ⟨by unfold gTx; rw [if_pos a2], a2⟩
    · obtain ⟨k, n', b1, b2, b3, b4, b5, b6, b7, b8, b9⟩ := h5 t a1
      refine .inr ⟨t, n', ?_, by omega, b2, a3, b6⟩
      unfold gTx
      rw [a3, if_neg (by rw [nn_NONE (by omega)]; exact fun y => y), nI_clamp (by omega), b6, nI_clamp (by omega)]
  · intro u' hu
    refine ⟨h4, fun j hj => ?_⟩
    have e : (fun t => u' 40 (69 + 100 * t + 0)) = fun t => u b (69 + 100 * t + 0) := funext fun t => hu _ (by omega)
    rw [e]
    rcases h6 j hj with ⟨a1, a2⟩ | ⟨t, a1, a2, a3, a4⟩
    · exact .inl ⟨by unfold gTx; rw [if_pos a2], a1⟩
    · obtain ⟨k, n', b1, b2, b3, b4, b5, b6, b7, b8, b9⟩ := h5 t a1
      refine .inr ⟨t, n', u (21 + t), ?_, by omega, b2, a2, by rw [hu _ (by omega)]; exact b7, fun i hi => by rw [hu _ (by omega)]; exact cR_le (by split <;> omega) (b8 i hi), b9⟩
      unfold gTx
      rw [a3, if_neg (by rw [nn_NONE (by omega)]; exact fun y => y), nI_clamp (by omega), b6, nI_clamp (by omega)]
theorem cT_tr {g' : Nat} (h : cT u g T) (e : ∀ j, j < 3 → u' g' (69 + j) = u g (69 + j)) (e3 : u' 3 = u 3) (e21 : ∀ t, t < 15 → u' (21 + t) = u (21 + t)) : cT u' g' T := by
  intro j hj
  rcases h j hj with ⟨h1, h2⟩ | ⟨t, n, h1, h2, h3, h4, h5⟩
  · exact .inl ⟨h1, by rw [e j hj, h2]⟩
  · exact .inr ⟨t, n, by rw [e21 t h2]; exact h1, h2, h3, by rw [e j hj, h4], by rw [e3, h5]⟩
theorem mT_eq (h : mT u T c) (f : ∀ o, 69 ≤ o → u' 40 o = u 40 o) : mT u' T c := by
  refine ⟨h.1, fun j hj => ?_⟩
  have e : (fun t => u' 40 (69 + 100 * t + 0)) = fun t => u 40 (69 + 100 * t + 0) := funext fun t => f _ (by omega)
  rw [e]
  rcases h.2 j hj with q | ⟨t, n, s, h1, h2, h3, h4, h5, h6, h7⟩
  · exact .inl q
  · exact .inr ⟨t, n, s, h1, h2, h3, h4, by rw [f _ (by omega)]; exact h5, fun k hk => by rw [f _ (by omega)]; exact h6 k hk, h7⟩
/-- thinking of a garden -/
theorem c_think (hq : q = 0 ∨ q = 2) (hR : gR u q w n m) (h : gOK w n m) (hT : cT u q T) : ∃ u', gm_cl' X (d + 1) 10 [.ref (zGC 1), .ref (zGC q)] (gt_h u) = some (none, gt_h u') ∧ (∀ b, b ≠ 1 → u' b = u b) ∧ gR u' 1 w n m ∧ cT u' 1 T := by
  obtain ⟨h1, h2, h3, h4, h5⟩ := h
  obtain ⟨u', e, f1, f2⟩ := c_become (X := X) (d := d) (u := u) (g := 1) (q := q) (n := n) (m := m) (by omega) (by omega) (by omega) h1 h2 (by rw [hR 10 (by omega)]; exact h3) (by rw [hR 11 (by omega)]; exact h4)
  refine ⟨u', e, f1, fun o ho => ?_, cT_tr hT (fun j hj => f2 _ (by omega)) (f1 3 (by omega)) (fun t ht => f1 _ (by omega))⟩
  rw [f2 o (by omega), hR o ho]
/-- a pair of calls -/
def Sim (X : List Int32) (jc jm : Nat) (as : List Value) : Prop := ∀ (u : gt_M) (d : Nat), Inv u → ∃ r u1 u2, gm_cl' X (d + 200) jc (.ref 0 :: as) (gt_h u) = some (some (.int r), gt_h u1) ∧ gm_cl' X (d + 200) jm (.ref 116 :: as) (gt_h u1) = some (some (.int r), gt_h u2) ∧ Inv u2
/-- both refuse, or answer, and nothing changes -/
theorem Sim_same {jc jm : Nat} {as : List Value} {r : Int32} (h : Inv u) (e1 : gm_cl' X (d + 200) jc (.ref 0 :: as) (gt_h u) = some (some (.int r), gt_h u)) (e2 : gm_cl' X (d + 200) jm (.ref 116 :: as) (gt_h u) = some (some (.int r), gt_h u)) : ∃ r u1 u2, gm_cl' X (d + 200) jc (.ref 0 :: as) (gt_h u) = some (some (.int r), gt_h u1) ∧ gm_cl' X (d + 200) jm (.ref 116 :: as) (gt_h u1) = some (some (.int r), gt_h u2) ∧ Inv u2 := ⟨r, u, u, e1, e2, h⟩
end C26
