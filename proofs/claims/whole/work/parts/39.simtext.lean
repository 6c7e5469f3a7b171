-- text: both sides
theorem lstS_snoc {K : Nat → Int32} {key : Int32} : ∀ (k t : Nat) (r : Int32), lstS K key (k + 1) t r = if K (t + k) = key then nI (t + k) else lstS K key k t r := by
  intro k
  induction k with
  | zero => intro t r; rfl
  | succ k ih =>
    intro t r
    rw [lstS, ih, lstS, show t + 1 + k = t + (k + 1) by omega]
theorem lstS_congr {K K' : Nat → Int32} {key : Int32} : ∀ (k t : Nat) (r : Int32), (∀ j, t ≤ j → j < t + k → K j = K' j) → lstS K key k t r = lstS K' key k t r := by
  intro k
  induction k with
  | zero => intro t r _; rfl
  | succ k ih =>
    intro t r h
    rw [lstS, lstS, h t (by omega) (by omega), ih _ _ (fun j h1 h2 => h j (by omega) (by omega))]
theorem gB_12 {w : Nat → Int32} {n m D : Nat} {x : Int32} (h : gB w n m D) : gB (wS w 12 x) n m D := by
  obtain ⟨⟨a1, a2, a3, a4, a5⟩, h2, h3, h4, h5⟩ := h
  refine ⟨⟨a1, a2, by rw [wS_miss (by omega)]; exact a3, by rw [wS_miss (by omega)]; exact a4, fun j hj => by rw [wS_miss (by omega)]; exact a5 j hj⟩, hO_o a1 h2 (by omega), fun j hj => ?_, by rw [wS_miss (by omega)]; exact h4, by rw [wS_miss (by omega)]; exact h5⟩
  have q := h3 j hj
  unfold bdB at q ⊢
  rw [wS_miss (by omega), wS_miss (by omega), wS_miss (by omega)]
  exact q
theorem gS_t {u u' : gt_M} {g b n m c : Nat} (h : gS u g b n m c) (eg : u' g = u g) (eb : u' b = u b) (e : ∀ t, t < c → u' 3 t = u 3 t ∧ u' 4 t = u 4 t ∧ u' 5 t = u 5 t ∧ u' (21 + t) = u (21 + t)) : gS u' g b n m c := by
  obtain ⟨h1, h2, h3, h4, h5, h6⟩ := h
  refine ⟨fun o ho => by rw [eg, eb]; exact h1 o ho, by rw [eb]; exact h2, by rw [eb]; exact h3, h4, fun t ht => ?_, cN_eq h6 (fun j _ => by rw [eg]) (fun o _ => by rw [eb])⟩
  obtain ⟨a1, a2, a3, a4⟩ := e t ht
  exact tX_eq (h5 t ht) a1 a2 a3 a4 (fun o _ _ => by rw [eb])
theorem iK_t {u u' : gt_M} {cc e' : Nat} (h : iK u) (h12 : u 40 12 = nI cc) (hcc : cc ≤ 14) (h12' : u' 40 12 = nI e') (hle : cc ≤ e') (he' : e' ≤ 14) (e10 : u' 10 = u 10) (e0 : u' 54 0 = u 54 0) (e2 : u' 2 = u 2) (e41 : u' 41 = u 41) (e : ∀ t, t < cc → u' 3 t = u 3 t ∧ u' 4 t = u 4 t ∧ u' 5 t = u 5 t ∧ u' (21 + t) = u (21 + t)) : iK u' := by
  rcases h with h | ⟨h1, h2, n, m, c, e9, h3, h4, h5, h6⟩
  · exact .inl ⟨by rw [e10]; exact h.1, by rw [e0]; exact h.2⟩
  · have : e9 = cc := by
      rw [h12, L_eq (by omega) (by omega)] at h4
      exact h4.symm
    subst this
    exact .inr ⟨by rw [e10]; exact h1, by rw [e0]; exact h2, n, m, c, e', gS_t h3 e2 e41 (fun t ht => e t (by omega)), h12', by omega, he'⟩
theorem Inv_t {u u' : gt_M} {cc : Nat} (h : Inv u) (h12 : u 40 12 = nI cc) (hcc : cc ≤ 14) (hq : ∀ b, b ≠ 3 → b ≠ 4 → b ≠ 5 → b ≠ 7 → b ≠ 9 → b ≠ 21 + cc → b ≠ 44 → b ≠ 54 → u' b = u b) (ho : ∀ o, o ≠ cc → u' 3 o = u 3 o ∧ u' 4 o = u 4 o ∧ u' 5 o = u 5 o) (e0 : u' 54 0 = u 54 0) (e11 : u' 54 11 = u 54 11) (e7 : u' 7 0 = nI 0) (e1 : u' 54 1 = nI 0) : Inv u' := by
  have et : ∀ t, t < cc → u' 3 t = u 3 t ∧ u' 4 t = u 4 t ∧ u' 5 t = u 5 t ∧ u' (21 + t) = u (21 + t) := fun t ht => by
    obtain ⟨a1, a2, a3⟩ := ho t (by omega)
    exact ⟨a1, a2, a3, hq _ (by omega) (by omega) (by omega) (by omega) (by omega) (by omega) (by omega) (by omega)⟩
  have eb : ∀ b, b ≠ 3 → b ≠ 4 → b ≠ 5 → b ≠ 7 → b ≠ 9 → (b < 21 ∨ 36 ≤ b) → b ≠ 44 → b ≠ 54 → u' b = u b := fun b h1 h2 h3 h4 h5 h6 h7 h8 => hq b h1 h2 h3 h4 h5 (by omega) h7 h8
  obtain ⟨⟨n, m, c, hG⟩, hK, hS, hL, hT, hW⟩ := h
  have : c = cc := by
    have q := hG.2.2.1
    have q2 := hG.2.2.2.1
    rw [h12, L_eq (by omega) (by omega)] at q
    exact q.symm
  subst this
  refine ⟨⟨n, m, c, gS_t hG (eb 0 (by omega) (by omega) (by omega) (by omega) (by omega) (by omega) (by omega) (by omega)) (eb 40 (by omega) (by omega) (by omega) (by omega) (by omega) (by omega) (by omega) (by omega)) et⟩, iK_t hK h12 hcc (by rw [eb 40 (by omega) (by omega) (by omega) (by omega) (by omega) (by omega) (by omega) (by omega)]; exact h12) (Nat.le_refl _) hcc (eb 10 (by omega) (by omega) (by omega) (by omega) (by omega) (by omega) (by omega) (by omega)) e0 (eb 2 (by omega) (by omega) (by omega) (by omega) (by omega) (by omega) (by omega) (by omega)) (eb 41 (by omega) (by omega) (by omega) (by omega) (by omega) (by omega) (by omega) (by omega)) et, iS_eq hS (fun s hs => eb _ (by omega) (by omega) (by omega) (by omega) (by omega) (by omega) (by omega) (by omega)) (eb 47 (by omega) (by omega) (by omega) (by omega) (by omega) (by omega) (by omega) (by omega)) (eb 48 (by omega) (by omega) (by omega) (by omega) (by omega) (by omega) (by omega) (by omega)) (eb 49 (by omega) (by omega) (by omega) (by omega) (by omega) (by omega) (by omega) (by omega)), iL_eq hL (fun s hs => eb _ (by omega) (by omega) (by omega) (by omega) (by omega) (by omega) (by omega) (by omega)) (eb 51 (by omega) (by omega) (by omega) (by omega) (by omega) (by omega) (by omega) (by omega)) (eb 52 (by omega) (by omega) (by omega) (by omega) (by omega) (by omega) (by omega) (by omega)), ⟨0, by omega, e7, e1, fun k hk => absurd hk (Nat.not_lt_zero _)⟩, iW_eq hW (by rw [eb 10 (by omega) (by omega) (by omega) (by omega) (by omega) (by omega) (by omega) (by omega)]) e11 (eb 11 (by omega) (by omega) (by omega) (by omega) (by omega) (by omega) (by omega) (by omega)) (eb 53 (by omega) (by omega) (by omega) (by omega) (by omega) (by omega) (by omega) (by omega))⟩
theorem Inv_new {u u3 : gt_M} {cc ky : Nat} {l : List Nat} {lv : Int32} (h : Inv u) (hky : ky < 3) (h12 : u 40 12 = nI cc) (hcc : cc < 14) (hl : l.length ≤ 96) (hsv : ∀ x, x ∈ l → svN ky x) (hhE : hE l 0 = some 1)
    (x0 : ∀ o, o ≠ 12 → o ≠ 69 + ky → u3 0 o = u 0 o) (x012 : u3 0 12 = nI (cc + 1)) (x0k : u3 0 (69 + ky) = nI cc)
    (x40 : ∀ o, o ≠ 12 → (o < 69 + 100 * cc ∨ 169 + 100 * cc ≤ o) → u3 40 o = u 40 o) (x4012 : u3 40 12 = nI (cc + 1)) (y0 : u3 40 (69 + 100 * cc + 0) = nI ky) (y1 : u3 40 (69 + 100 * cc + 1) = lv) (y2 : u3 40 (69 + 100 * cc + 2) = nI l.length) (y3 : ∀ j, j < l.length → u3 40 (69 + 100 * cc + 3 + j) = rfI (l.getD j 0))
    (z3 : u3 3 cc = nI l.length) (z4 : u3 4 cc = nI ky) (z5 : u3 5 cc = lv) (z21 : ∀ j, j < l.length → u3 (21 + cc) j = nI (l.getD j 0))
    (hq : ∀ b, b ≠ 0 → b ≠ 3 → b ≠ 4 → b ≠ 5 → b ≠ 7 → b ≠ 9 → b ≠ 21 + cc → b ≠ 40 → b ≠ 44 → b ≠ 54 → u3 b = u b) (ho : ∀ o, o ≠ cc → u3 3 o = u 3 o ∧ u3 4 o = u 4 o ∧ u3 5 o = u 5 o) (e0 : u3 54 0 = u 54 0) (e11 : u3 54 11 = u 54 11) (e7 : u3 7 0 = nI 0) (e1 : u3 54 1 = nI 0) : Inv u3 := by
  have et : ∀ t, t < cc → u3 3 t = u 3 t ∧ u3 4 t = u 4 t ∧ u3 5 t = u 5 t ∧ u3 (21 + t) = u (21 + t) := fun t ht => by
    obtain ⟨a1, a2, a3⟩ := ho t (by omega)
    exact ⟨a1, a2, a3, hq _ (by omega) (by omega) (by omega) (by omega) (by omega) (by omega) (by omega) (by omega) (by omega) (by omega)⟩
  have eb : ∀ b, b ≠ 0 → b ≠ 3 → b ≠ 4 → b ≠ 5 → b ≠ 7 → b ≠ 9 → (b < 21 ∨ 36 ≤ b) → b ≠ 40 → b ≠ 44 → b ≠ 54 → u3 b = u b := fun b h1 h2 h3 h4 h5 h6 h7 h8 h9 h10 => hq b h1 h2 h3 h4 h5 h6 (by omega) h8 h9 h10
  obtain ⟨⟨n, m, c, g1, g2, g3, g4, g5, g6⟩, hK, hS, hL, hT, hW⟩ := h
  have : c = cc := by
    have q := g3
    rw [h12, L_eq (by omega) (by omega)] at q
    exact q.symm
  subst this
  have hn := g2.1.1
  have hm := g2.1.2.1
  have hR40 : gR u3 40 (wS (u 40) 12 (nI (c + 1))) n m := fun o ho => by
    by_cases o12 : o = 12
    · rw [wS_hit o12, o12]; exact x4012
    · rw [wS_miss o12, x40 o o12 (by omega)]
  refine ⟨⟨n, m, c + 1, fun o ho => ?_, gB_R hR40 (gB_12 g2), x4012, by omega, fun t ht => ?_, fun j hj => ?_⟩, iK_t hK h12 (by omega) x4012 (by omega) (by omega) (eb 10 (by omega) (by omega) (by omega) (by omega) (by omega) (by omega) (by omega) (by omega) (by omega) (by omega)) e0 (eb 2 (by omega) (by omega) (by omega) (by omega) (by omega) (by omega) (by omega) (by omega) (by omega) (by omega)) (eb 41 (by omega) (by omega) (by omega) (by omega) (by omega) (by omega) (by omega) (by omega) (by omega) (by omega)) et, iS_eq hS (fun s hs => eb _ (by omega) (by omega) (by omega) (by omega) (by omega) (by omega) (by omega) (by omega) (by omega) (by omega)) (eb 47 (by omega) (by omega) (by omega) (by omega) (by omega) (by omega) (by omega) (by omega) (by omega) (by omega)) (eb 48 (by omega) (by omega) (by omega) (by omega) (by omega) (by omega) (by omega) (by omega) (by omega) (by omega)) (eb 49 (by omega) (by omega) (by omega) (by omega) (by omega) (by omega) (by omega) (by omega) (by omega) (by omega)), iL_eq hL (fun s hs => eb _ (by omega) (by omega) (by omega) (by omega) (by omega) (by omega) (by omega) (by omega) (by omega) (by omega)) (eb 51 (by omega) (by omega) (by omega) (by omega) (by omega) (by omega) (by omega) (by omega) (by omega) (by omega)) (eb 52 (by omega) (by omega) (by omega) (by omega) (by omega) (by omega) (by omega) (by omega) (by omega) (by omega)), ⟨0, by omega, e7, e1, fun k hk => absurd hk (Nat.not_lt_zero _)⟩, iW_eq hW (by rw [eb 10 (by omega) (by omega) (by omega) (by omega) (by omega) (by omega) (by omega) (by omega) (by omega) (by omega)]) e11 (eb 11 (by omega) (by omega) (by omega) (by omega) (by omega) (by omega) (by omega) (by omega) (by omega) (by omega)) (eb 53 (by omega) (by omega) (by omega) (by omega) (by omega) (by omega) (by omega) (by omega) (by omega) (by omega))⟩
  · by_cases o12 : o = 12
    · rw [o12, x012, x4012]
    · rw [x0 o o12 (by omega), x40 o o12 (by omega)]
      exact g1 o ho
  · by_cases htc : t = c
    · subst htc
      refine ⟨ky, l.length, hky, hl, z4, y0, by rw [z5, y1], z3, y2, fun j hj => ?_, ?_⟩
      · rw [z21 j hj, y3 j hj]
        refine sv_cR (hsv _ ?_)
        rw [List.getD_eq_getElem?_getD, List.getElem?_eq_getElem hj]
        exact List.getElem_mem hj
      · exact hE_wf z21 (fun j hj => sv_lt (hsv _ (by
          rw [List.getD_eq_getElem?_getD, List.getElem?_eq_getElem hj]
          exact List.getElem_mem hj))) l.length 0 0 (by omega) hhE
    · obtain ⟨a1, a2, a3, a4⟩ := et t (by omega)
      exact tX_eq (g5 t (by omega)) a1 a2 a3 a4 (fun o h1 h2 => x40 o (by omega) (by omega))
  · rw [lstS_snoc, Nat.zero_add, y0]
    by_cases hjk : j = ky
    · subst hjk
      rw [if_pos rfl]
      exact .inr ⟨c, by omega, rfl, x0k, y0⟩
    · rw [if_neg (fun y => hjk (by rw [L_eq (by omega) (by omega)] at y; exact y.symm))]
      have ec : lstS (fun t => u3 40 (69 + 100 * t + 0)) (nI j) c 0 (-1) = lstS (fun t => u 40 (69 + 100 * t + 0)) (nI j) c 0 (-1) := lstS_congr c 0 (-1) (fun t _ ht => x40 _ (by omega) (by omega))
      rw [ec, x0 (69 + j) (by omega) (by omega)]
      rcases g6 j hj with q | ⟨t, b1, b2, b3, b4⟩
      · exact .inl q
      · exact .inr ⟨t, by omega, b2, b3, by rw [x40 _ (by omega) (by omega)]; exact b4⟩
theorem Sim_text {X : List Int32} : Sim X 90 185 [] := by
  intro u d hI
  have hI0 := hI
  obtain ⟨⟨n, m, cc, g1, g2, g3, g4, g5, g6⟩, hK, hS, hL, ⟨c, t1, t2, t3, t4⟩, hW⟩ := hI
  obtain ⟨B, hb, hB8, hB43⟩ : ∃ B : Nat → Nat, (∀ k, B k < 256) ∧ (∀ k, k < c → u 8 k = nI (B k)) ∧ (∀ k, k < c → u 43 k = nI (B k)) := by
    refine ⟨fun k => if k < c then (u 43 k).toNatClampNeg else 0, fun k => ?_, fun k hk => ?_, fun k hk => ?_⟩
    · show (if k < c then (u 43 k).toNatClampNeg else 0) < 256
      by_cases hk : k < c
      · obtain ⟨_, v, hv, e⟩ := t4 k hk
        rw [if_pos hk, e, nI_clamp (by omega)]
        exact hv
      · rw [if_neg hk]
        omega
    · obtain ⟨e8, v, hv, e⟩ := t4 k hk
      show u 8 k = nI (if k < c then (u 43 k).toNatClampNeg else 0)
      rw [if_pos hk, e8, e, nI_clamp (by omega)]
    · obtain ⟨e8, v, hv, e⟩ := t4 k hk
      show u 43 k = nI (if k < c then (u 43 k).toNatClampNeg else 0)
      rw [if_pos hk, e, nI_clamp (by omega)]
  have h12 : u 0 12 = nI cc := by rw [g1 12 (by omega)]; exact g3
  obtain ⟨u1, F1, S1, c1, c2, c3⟩ := c_text (X := X) (d := d + 40) (t := cc) t1 hb t2 hB8 g4 h12
  by_cases hu : undT B c = true
  · have hk : kyT B c < 3 := by
      unfold undT at hu
      rw [Bool.and_eq_true, decide_eq_true_eq] at hu
      exact hu.1
    have hr : (rT B c).1 = true := by
      unfold undT at hu
      rw [Bool.and_eq_true, Bool.and_eq_true] at hu
      exact hu.2.1
    by_cases h14 : cc = 14
    · obtain ⟨u2, A2, d1, d2, d3⟩ := m_text (X := X) (d := d + 40) (B := B) (c := c) (t := cc) (u := gt_set u1 7 0 (nI 0)) t1 hb (by rw [gs_rowne (by omega), F1.1 54 (by omega) (by omega) (by omega) (by omega) (by omega) (by omega)]; exact t3) (fun k hk => by rw [gs_rowne (by omega), F1.1 43 (by omega) (by omega) (by omega) (by omega) (by omega) (by omega)]; exact hB43 k hk) g4 (by rw [gs_rowne (by omega), F1.1 40 (by omega) (by omega) (by omega) (by omega) (by omega) (by omega)]; exact g3)
      refine ⟨_, _, _, c2 hu h14, d2 hu h14, Inv_t hI0 g3 g4 (fun b b3 b4 b5 b7 b9 b21 b44 b54 => ?_) (fun o ho => ?_) ?_ ?_ ?_ gt_set_eq⟩
      · rw [gs_rowne b54, A2.1 b b44 b54, gs_rowne b7, F1.1 b b3 b4 b5 b7 b9 b21]
      · obtain ⟨a1, a2, a3⟩ := F1.2 o ho
        rw [gs_rowne (by omega), gs_rowne (by omega), gs_rowne (by omega), A2.1 3 (by omega) (by omega), A2.1 4 (by omega) (by omega), A2.1 5 (by omega) (by omega), gs_rowne (by omega), gs_rowne (by omega), gs_rowne (by omega)]
        exact ⟨a1, a2, a3⟩
      · rw [gs_miss (by omega), A2.2.1, gs_rowne (by omega), F1.1 54 (by omega) (by omega) (by omega) (by omega) (by omega) (by omega)]
      · rw [gs_miss (by omega), A2.2.2.2, gs_rowne (by omega), F1.1 54 (by omega) (by omega) (by omega) (by omega) (by omega) (by omega)]
      · rw [gs_rowne (by omega), A2.1 7 (by omega) (by omega), gt_set_eq]
    · have hcc : cc < 14 := by omega
      have ok0 : okT B c (s0T B c) := (okT_nx (B := B) (c := c) (s := (0, 0, 0, [], 0)) (Nat.zero_le _)).1
      obtain ⟨n1, n2⟩ := okT_nx (B := B) (c := c) (s := s0T B c) ok0.2.2.1
      obtain ⟨q1, q2, q3⟩ := pG_ok hk 118 0 0 0 _ n1
      obtain ⟨r0, l, r1, r2, r3, r4⟩ := q3 hr
      have r1 : (rT B c).2.2.2.2.1 = l := r1
      have r4 : (nxS B c (s0T B c)).2.1 + l.length ≤ (rT B c).2.2.1 := r4
      have r0 : okT B c (rT B c).2 := r0
      have hlen : l.length ≤ 96 := by
        have a1 := r0.2.1
        have a2 := r0.2.2.1
        omega
      obtain ⟨RC, h4⟩ := S1 hk
      obtain ⟨u2, A2, d1, d2, d3⟩ := m_text (X := X) (d := d + 40) (B := B) (c := c) (t := cc) (u := gt_set (gt_set (gt_set u1 7 0 (nI 0)) 0 (69 + kyT B c) (nI cc)) 0 12 (nI (cc + 1))) t1 hb (by rw [gs_rowne (by omega), gs_rowne (by omega), gs_rowne (by omega), F1.1 54 (by omega) (by omega) (by omega) (by omega) (by omega) (by omega)]; exact t3) (fun k hk => by rw [gs_rowne (by omega), gs_rowne (by omega), gs_rowne (by omega), F1.1 43 (by omega) (by omega) (by omega) (by omega) (by omega) (by omega)]; exact hB43 k hk) g4 (by rw [gs_rowne (by omega), gs_rowne (by omega), gs_rowne (by omega), F1.1 40 (by omega) (by omega) (by omega) (by omega) (by omega) (by omega)]; exact g3)
      obtain ⟨RW, e2⟩ := d3 hu hcc (by rw [r1]; exact hlen)
      obtain ⟨s5, s6, s9, s10, sr⟩ := RW
      obtain ⟨_, _, _, _, _, _, _, p3, p21, p5⟩ := RC
      rw [r1] at e2 sr p3 p21
      generalize (rT B c).2.2.2.2.2 = lv at *
      have A2a : ∀ b, b ≠ 0 → b ≠ 3 → b ≠ 4 → b ≠ 5 → b ≠ 7 → b ≠ 9 → b ≠ 21 + cc → b ≠ 44 → b ≠ 54 → u2 b = u b := fun b b0 b3 b4 b5 b7 b9 b21 b44 b54 => by
        rw [A2.1 b b44 b54, gs_rowne b0, gs_rowne b0, gs_rowne b7, F1.1 b b3 b4 b5 b7 b9 b21]
      have A2b : ∀ b, b ≠ 0 → b ≠ 7 → b ≠ 44 → b ≠ 54 → u2 b = u1 b := fun b b0 b7 b44 b54 => by
        rw [A2.1 b b44 b54, gs_rowne b0, gs_rowne b0, gs_rowne b7]
      have V : ∀ b, b ≠ 40 → b ≠ 54 → gt_set (gt_cpy (gt_set (gt_set (gt_set (gt_set u2 54 1 (nI 0)) 40 (69 + 100 * cc + 0) (nI (kyT B c))) 40 (69 + 100 * cc + 1) (nI lv)) 40 (69 + 100 * cc + 2) (nI l.length)) 44 0 40 (69 + 100 * cc + 3) l.length) 40 12 (nI (cc + 1)) b = u2 b := fun b b40 b54 => by
        rw [gs_rowne b40, gt_cpy_rowne b40, gs_rowne b40, gs_rowne b40, gs_rowne b40, gs_rowne b54]
      have V54 : ∀ o, o ≠ 1 → gt_set (gt_cpy (gt_set (gt_set (gt_set (gt_set u2 54 1 (nI 0)) 40 (69 + 100 * cc + 0) (nI (kyT B c))) 40 (69 + 100 * cc + 1) (nI lv)) 40 (69 + 100 * cc + 2) (nI l.length)) 44 0 40 (69 + 100 * cc + 3) l.length) 40 12 (nI (cc + 1)) 54 o = u2 54 o := fun o o1 => by
        rw [gs_rowne (by omega), gt_cpy_rowne (by omega), gs_rowne (by omega), gs_rowne (by omega), gs_rowne (by omega), gs_miss (by omega)]
      refine ⟨_, _, _, c3 hu hcc hk, e2, Inv_new (cc := cc) (ky := kyT B c) (l := l) (lv := nI lv) hI0 hk g3 hcc hlen r3 (r2 0) (fun o o12 ok => ?_) ?_ ?_ (fun o o12 oo => ?_) gt_set_eq ?_ ?_ ?_ (fun j hj => ?_) ?_ ?_ ?_ (fun j hj => ?_) (fun b b0 b3 b4 b5 b7 b9 b21 b40 b44 b54 => ?_) (fun o ho => ?_) ?_ ?_ ?_ ?_⟩
      · rw [V 0 (by omega) (by omega), A2.1 0 (by omega) (by omega), gs_miss (by omega), gs_miss (by omega), gs_rowne (by omega), F1.1 0 (by omega) (by omega) (by omega) (by omega) (by omega) (by omega)]
      · rw [V 0 (by omega) (by omega), A2.1 0 (by omega) (by omega), gt_set_eq]
      · rw [V 0 (by omega) (by omega), A2.1 0 (by omega) (by omega), gs_miss (by omega), gt_set_eq]
      · rw [gs_miss (by omega), gt_cpy_qout (by omega), gs_miss (by omega), gs_miss (by omega), gs_miss (by omega), gs_rowne (by omega), A2a 40 (by omega) (by omega) (by omega) (by omega) (by omega) (by omega) (by omega) (by omega) (by omega)]
      · rw [gs_miss (by omega), gt_cpy_qout (by omega), gs_miss (by omega), gs_miss (by omega), gt_set_eq]
      · rw [gs_miss (by omega), gt_cpy_qout (by omega), gs_miss (by omega), gt_set_eq]
      · rw [gs_miss (by omega), gt_cpy_qout (by omega), gt_set_eq]
      · rw [gs_miss (by omega), gt_cpy_qin (by omega) (by omega), gs_rowne (by omega), gs_rowne (by omega), gs_rowne (by omega), gs_rowne (by omega), Nat.add_sub_cancel_left]
        exact sr j hj
      · rw [V 3 (by omega) (by omega), A2b 3 (by omega) (by omega) (by omega) (by omega)]; exact p3
      · rw [V 4 (by omega) (by omega), A2b 4 (by omega) (by omega) (by omega) (by omega)]; exact h4
      · rw [V 5 (by omega) (by omega), A2b 5 (by omega) (by omega) (by omega) (by omega)]; exact p5
      · rw [V _ (by omega) (by omega), A2b _ (by omega) (by omega) (by omega) (by omega)]; exact p21 j hj
      · rw [V b b40 b54, A2a b b0 b3 b4 b5 b7 b9 b21 b44 b54]
      · rw [V 3 (by omega) (by omega), V 4 (by omega) (by omega), V 5 (by omega) (by omega), A2b 3 (by omega) (by omega) (by omega) (by omega), A2b 4 (by omega) (by omega) (by omega) (by omega), A2b 5 (by omega) (by omega) (by omega) (by omega)]
        exact F1.2 o ho
      · rw [V54 0 (by omega), A2.2.1, gs_rowne (by omega), gs_rowne (by omega), gs_rowne (by omega), F1.1 54 (by omega) (by omega) (by omega) (by omega) (by omega) (by omega)]
      · rw [V54 11 (by omega), A2.2.2.2, gs_rowne (by omega), gs_rowne (by omega), gs_rowne (by omega), F1.1 54 (by omega) (by omega) (by omega) (by omega) (by omega) (by omega)]
      · rw [V 7 (by omega) (by omega), A2.1 7 (by omega) (by omega), gs_rowne (by omega), gs_rowne (by omega), gt_set_eq]
      · rw [gs_rowne (by omega), gt_cpy_rowne (by omega), gs_rowne (by omega), gs_rowne (by omega), gs_rowne (by omega), gt_set_eq]
  · obtain ⟨u2, A2, d1, d2, d3⟩ := m_text (X := X) (d := d + 40) (B := B) (c := c) (t := cc) (u := gt_set u1 7 0 (nI 0)) t1 hb (by rw [gs_rowne (by omega), F1.1 54 (by omega) (by omega) (by omega) (by omega) (by omega) (by omega)]; exact t3) (fun k hk => by rw [gs_rowne (by omega), F1.1 43 (by omega) (by omega) (by omega) (by omega) (by omega) (by omega)]; exact hB43 k hk) g4 (by rw [gs_rowne (by omega), F1.1 40 (by omega) (by omega) (by omega) (by omega) (by omega) (by omega)]; exact g3)
    refine ⟨_, _, _, c1 hu, d1 hu, Inv_t hI0 g3 g4 (fun b b3 b4 b5 b7 b9 b21 b44 b54 => ?_) (fun o ho => ?_) ?_ ?_ ?_ gt_set_eq⟩
    · rw [gs_rowne b54, A2.1 b b44 b54, gs_rowne b7, F1.1 b b3 b4 b5 b7 b9 b21]
    · obtain ⟨a1, a2, a3⟩ := F1.2 o ho
      rw [gs_rowne (by omega), gs_rowne (by omega), gs_rowne (by omega), A2.1 3 (by omega) (by omega), A2.1 4 (by omega) (by omega), A2.1 5 (by omega) (by omega), gs_rowne (by omega), gs_rowne (by omega), gs_rowne (by omega)]
      exact ⟨a1, a2, a3⟩
    · rw [gs_miss (by omega), A2.2.1, gs_rowne (by omega), F1.1 54 (by omega) (by omega) (by omega) (by omega) (by omega) (by omega)]
    · rw [gs_miss (by omega), A2.2.2.2, gs_rowne (by omega), F1.1 54 (by omega) (by omega) (by omega) (by omega) (by omega) (by omega)]
    · rw [gs_rowne (by omega), A2.1 7 (by omega) (by omega), gt_set_eq]
