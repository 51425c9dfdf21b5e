/-! load -/
theorem JJ.c2 {V : gX} {F : gF} (h : JJ V F) : ∃ (w n kc u x : Nat), MS F w ∧ WF (row F w) n kc ∧ RR V.2.1 (row F w) n kc ∧ u ≤ 8 ∧ F 0 5 = nI u ∧ x < 8 ∧ V.2.2.2.1 0 1 = nI x ∧ (∀ (G' : gR) (g' : Nat → Int32) (n' kc' : Nat), WF g' n' kc' → RR G' g' n' kc' → JJ (V.1, G', V.2.2.1, (hSave V.2.2.2.1, va_up V.2.2.2.2 x V.2.1)) (st (wr (wr F 0 4 (nI ((w + 1) % 9))) 0 5 (nI (min 8 (u + 1)))) ((w + 1) % 9) g')) := by
  obtain ⟨⟨w, h1, ⟨n, kc, h2, h3⟩, u, x, q1, q2, q3, q4, q5, q6⟩, h4, f, f1, f2, f3, f4⟩ := h
  have hw := h1.2
  refine ⟨w, n, kc, u, x, h1, h2, h3, q1, q3, q2, q5, fun G' g' n' kc' hW' hR' => ⟨⟨(w + 1) % 9, ⟨by rw [st_0, wr_o (by decide), wr_i], by omega⟩, ⟨n', kc', WRst (F := F) (w := w) hW' hR' (fun k hk => row_st hk)⟩, min 8 (u + 1), (x + 1) % 8, by omega, by omega, by rw [st_0, wr_i], ?_, ?_, fun j hj => ?_⟩, ?_, f, f1, ?_, f3, fun j hj => ?_⟩⟩
  · show hSave V.2.2.2.1 0 2 = _
    unfold hSave
    simp only [wr, if_true, upd]
    rw [q4, nI_1]
    by_cases h8 : 8 < u + 1
    · rw [if_pos (show (8 : Int32) < nI (u + 1) from nI_lt (a := 8) h8 (by omega)), show min 8 (u + 1) = 8 by omega]; rfl
    · rw [if_neg (show ¬ (8 : Int32) < nI (u + 1) from nI_nlt (b := u + 1) (a := 8) (by omega) (by omega)), show min 8 (u + 1) = u + 1 by omega]
  · show hSave V.2.2.2.1 0 1 = _
    unfold hSave
    simp only [wr, if_true, upd]
    rw [if_neg (by decide), q5, mod8 x q2]
  · show ∃ n kc : Nat, WF _ n kc ∧ RR (va_up V.2.2.2.2 x V.2.1 (((x + 1) % 8 + 7 - j) % 8)) _ n kc
    by_cases h0 : j = 0
    · subst h0
      rw [show ((w + 1) % 9 + 8 - 0) % 9 = w by omega, show ((x + 1) % 8 + 7 - 0) % 8 = x by omega, show va_up V.2.2.2.2 x V.2.1 x = V.2.1 from by simp [va_up]]
      exact ⟨n, kc, WRst (F := F) (w := w) h2 h3 (fun k hk => by
        show (st _ _ _) 1 (310 * w + k) = _
        rw [st_o hk (by omega), wr_b (by decide), wr_b (by decide)]; rfl)⟩
    · obtain ⟨n1, kc1, p1, p2⟩ := q6 (j - 1) (by omega)
      rw [show ((w + 1) % 9 + 8 - j) % 9 = (w + 8 - (j - 1)) % 9 by omega, show ((x + 1) % 8 + 7 - j) % 8 = (x + 7 - (j - 1)) % 8 by omega, show va_up V.2.2.2.2 x V.2.1 ((x + 7 - (j - 1)) % 8) = V.2.2.2.2 ((x + 7 - (j - 1)) % 8) from by unfold va_up; rw [if_neg (by omega)]]
      exact ⟨n1, kc1, WRst (F := F) (w := w) p1 p2 (fun k hk => by
        show (st _ _ _) 1 (310 * ((w + 8 - (j - 1)) % 9) + k) = _
        rw [st_o hk (by omega), wr_b (by decide), wr_b (by decide)]; rfl)⟩
  · rw [st_0, wr_o (by decide), wr_o (by decide)]; exact h4
  · rw [st_0, wr_o (by decide), wr_o (by decide)]; exact f2
  · rw [st_b (by decide), wr_b (by decide), wr_b (by decide)]; exact f4 j hj
theorem JJ.ld {A : gF} {G : gR} {R R' : gD} {H : gH} {A' X F' : gF} (h : JJ (A, G, R, H) X) (e1 : F' 1 = X 1) (e4 : F' 0 4 = X 0 4) (e5 : F' 0 5 = X 0 5) (e7 : F' 0 7 = nI 0) (ea : A' 0 3 = F' 0 11) (er : R'.1 0 1 = nI 0) : JJ (A', G, R', H) F' := by
  obtain ⟨⟨w, h1, ⟨n, kc, h2, h3⟩, u, x, q1, q2, q3, q4, q5, q6⟩, h4, -⟩ := h
  have erw : ∀ w : Nat, row F' w = row X w := fun w => row_b e1
  refine ⟨⟨w, ⟨by rw [e4]; exact h1.1, h1.2⟩, ⟨n, kc, by rw [erw]; exact h2, by rw [erw]; exact h3⟩, u, x, q1, q2, by rw [e5]; exact q3, q4, q5, fun j hj => ?_⟩, ea, 0, by decide, e7, er, fun j hj => by omega⟩
  obtain ⟨n1, kc1, p1, p2⟩ := q6 j hj
  exact ⟨n1, kc1, by rw [erw]; exact p1, by rw [erw]; exact p2⟩
def Cj (F : gF) (g : Nat → Int32) (j : Nat) : gF := fun a i => if a = 2 ∧ i < j then g i else F a i
theorem Cj_b {F : gF} {g : Nat → Int32} {j a : Nat} (h : a ≠ 2) : Cj F g j a = F a := by
  funext i; unfold Cj; rw [if_neg (fun q => h q.1)]
theorem Cj_u (F : gF) (g : Nat → Int32) (j : Nat) : wr (Cj F g j) 2 j (g j) = Cj F g (j + 1) := by
  funext a i
  by_cases ha : a = 2
  · subst ha
    simp only [wr, Cj, if_true, upd, true_and]
    by_cases e : i = j
    · rw [if_pos e, if_pos (by omega), e]
    · rw [if_neg e]
      by_cases h : i < j
      · rw [if_pos h, if_pos (by omega)]
      · rw [if_neg h, if_neg (by omega)]
  · simp only [wr, if_neg ha]
    rw [Cj_b ha, Cj_b ha]
theorem load51 {F : gF} {w : Nat} (hM : MS F w) : ∀ (N j : Nat), j ≤ 310 → 310 < N + j → lpX5_load_51 N (nI j) (Cj F (row F w) j) = some (0, Cj F (row F w) 310) := by
  intro N
  induction N with
  | zero => intro j q1 q2; omega
  | succ N ih =>
    intro j q1 q2
    unfold lpX5_load_51
    by_cases hj : 310 ≤ j
    · rw [if_pos (show (310 : Int32) ≤ nI j from nI_le (a := 310) hj (by omega)), show j = 310 by omega]
    · have hM2 : MS (Cj F (row F w) j) w := ⟨by rw [Cj_b (by decide)]; exact hM.1, hM.2⟩
      rw [if_neg (show ¬ (310 : Int32) ≤ nI j from nI_ge (b := 310) (by omega) (by omega)), getr hM2 (by omega), bp_s, row_b (F := F) (Cj_b (by decide)), wi_ok (by omega) (by decide), bw_s, Cj_u, nI_1]
      exact ih (j + 1) (by omega) (by omega)
theorem load93a {P : gF} {w : Nat} {x3 : Int32} {g g' : Nat → Int32} (hM : MS P w) (h2 : ∀ j : Nat, j < 310 → P 2 j = g j) : ∀ (N j : Nat), j ≤ 310 → 310 < N + j → lpX5_load_93 0 x3 N (nI j) (st P w (cpM g g' j)) = some (0, st P w (cpM g g' 310)) := by
  intro N
  induction N with
  | zero => intro j q1 q2; omega
  | succ N ih =>
    intro j q1 q2
    unfold lpX5_load_93
    by_cases hj : 310 ≤ j
    · rw [if_pos (show (310 : Int32) ≤ nI j from nI_le (a := 310) hj (by omega)), show j = 310 by omega]
    · rw [if_neg (show ¬ (310 : Int32) ≤ nI j from nI_ge (b := 310) (by omega) (by omega)), if_pos rfl, ra_ok (by omega) (by decide), st_b (by decide), h2 j (by omega), put_ hM (by omega), bp_s, cpM_u, nI_1]
      exact ih (j + 1) (by omega) (by omega)
theorem st_w1 {F : gF} {w i : Nat} {g : Nat → Int32} {v : Int32} (h : ¬ (310 * w ≤ i ∧ i < 310 * w + 310)) : wr (st F w g) 1 i v = st (wr F 1 i v) w g := by
  funext a j
  by_cases ha : a = 1
  · subst ha
    simp only [wr, st, if_true, upd, true_and]
    by_cases e : j = i
    · rw [if_pos e, if_neg (by rw [e]; exact h), if_pos e]
    · rw [if_neg e]
      by_cases c : 310 * w ≤ j ∧ j < 310 * w + 310
      · rw [if_pos c, if_pos c]
      · rw [if_neg c, if_neg c, if_neg e]
  · simp only [wr, st, if_neg ha]
theorem load93b {P : gF} {w w' : Nat} {g g' f0 : Nat → Int32} (hM : MS P w) (hw' : w' < 9) (hne : w ≠ w') (h2 : ∀ j : Nat, j < 310 → P 2 j = g j) : ∀ (N j : Nat), j ≤ 310 → 310 < N + j → lpX5_load_93 1 (nI w') N (nI j) (st (st P w' (cpM g' f0 j)) w (cpM g g' j)) = some (0, st (st P w' (cpM g' f0 310)) w (cpM g g' 310)) := by
  have hw := hM.2
  intro N
  induction N with
  | zero => intro j q1 q2; omega
  | succ N ih =>
    intro j q1 q2
    unfold lpX5_load_93
    by_cases hj : 310 ≤ j
    · rw [if_pos (show (310 : Int32) ≤ nI j from nI_le (a := 310) hj (by omega)), show j = 310 by omega]
    · have hM1 : MS (st P w' (cpM g' f0 j)) w := ⟨by rw [st_0]; exact hM.1, hM.2⟩
      have hM2 : MS (st P w' (cpM g' f0 (j + 1))) w := ⟨by rw [st_0]; exact hM.1, hM.2⟩
      have ej : cpM g g' j j = g' j := by unfold cpM; rw [if_neg (by omega)]
      have e2 : (st (st P w' (cpM g' f0 (j + 1))) w (cpM g g' j)) 2 = P 2 := by rw [st_b (by decide), st_b (by decide)]
      rw [if_neg (show ¬ (310 : Int32) ≤ nI j from nI_ge (b := 310) (by omega) (by omega)), if_neg (show ¬ (1 : Int32) = 0 by decide), get_ hM1 (by omega), bp_s, ej, show (310 : Int32) = nI 310 from rfl, nI_mul, nI_add, wi_ok (by omega) (by decide), bw_s, st_w1 (by omega), st_w (by omega), cpM_u, e2, ra_ok (by omega) (by decide), h2 j (by omega), put_ hM2 (by omega), bp_s, cpM_u, nI_1]
      exact ih (j + 1) (by omega) (by omega)
theorem s_load (x1 x2 x3 x4 x5 : Int32) (V : gX) (F : gF) (fo : Nat → Int64) (h : JJ V F) : ∃ V' F' fo', LR 1 x1 x2 x3 x4 x5 V F fo V' F' fo' ∧ JJ V' F' := by
  obtain ⟨-, -, f, hf, f2, f3, f4⟩ := id h
  show ∃ V' F' fo', WS _ V fo (dnX4_load V x1) (dnX5_load F x1) V' F' fo' ∧ JJ V' F'
  have f2' : (wr F 0 0 0) 0 7 = nI f := by rw [wr_o (by decide)]; exact f2
  rcases in_em 0 (nI f) x1 with ⟨i1, i2, i3⟩ | ⟨i1, i3⟩
  · obtain ⟨len, -, hl, rfl⟩ := lo_nI (a := 0) (b := f) (by omega) i1 (by decide) i2
    obtain ⟨w, n, kc, u, x, hM, hW, hR, hu, h5, hx8, hx, hJ⟩ := JJ.c2 (h.t 0)
    have hw := hM.2
    -- what the reference begins with
    have hM0 : MS (wr (wr (wr (wr (wr (wr F 0 0 0) 0 8 (nI len)) 0 9 0) 0 7 0) 0 10 0) 0 11 (-1)) w := ((((hM.w0 (k := 8) (by decide)).w0 (k := 9) (by decide)).w0 (k := 7) (by decide)).w0 (k := 10) (by decide)).w0 (k := 11) (by decide)
    generalize eP : wr (wr (wr (wr (wr (wr F 0 0 0) 0 8 (nI len)) 0 9 0) 0 7 0) 0 10 0) 0 11 (-1) = P0 at hM0
    have p1 : ∀ a : Nat, a ≠ 0 → P0 a = F a := fun a ha => by
      rw [← eP, wr_b ha, wr_b ha, wr_b ha, wr_b ha, wr_b ha, wr_b ha]
    have p8 : P0 0 8 = nI len := by rw [← eP, wr_o (by decide), wr_o (by decide), wr_o (by decide), wr_o (by decide), wr_i]
    have p9 : P0 0 9 = 0 := by rw [← eP, wr_o (by decide), wr_o (by decide), wr_o (by decide), wr_i]
    have p7 : P0 0 7 = nI 0 := by rw [← eP, wr_o (by decide), wr_o (by decide), wr_i]; rfl
    have p10 : P0 0 10 = 0 := by rw [← eP, wr_o (by decide), wr_i]
    have p11 : P0 0 11 = -1 := by rw [← eP, wr_i]
    have p5 : P0 0 5 = nI u := by rw [← eP, wr_o (by decide), wr_o (by decide), wr_o (by decide), wr_o (by decide), wr_o (by decide)]; exact h5
    have p0 : P0 0 0 = 0 := by rw [← eP, wr_o (by decide), wr_o (by decide), wr_o (by decide), wr_o (by decide), wr_o (by decide), wr_i]
    have prow : row P0 w = row F w := row_b (p1 1 (by decide))
    have e51 := load51 hM0 FU 0 (by omega) (by unfold FU; omega)
    rw [show Cj P0 (row P0 w) 0 = P0 from by funext a i; unfold Cj; rw [if_neg (by omega)]] at e51
    have hM1 : MS (Cj P0 (row P0 w) 310) w := ⟨by rw [Cj_b (by decide)]; exact hM0.1, hw⟩
    have c2 : ∀ j : Nat, j < 310 → Cj P0 (row P0 w) 310 2 j = row P0 w j := fun j hj => by unfold Cj; rw [if_pos ⟨rfl, hj⟩]
    have cb : ∀ a : Nat, a ≠ 2 → Cj P0 (row P0 w) 310 a = P0 a := fun a ha => Cj_b ha
    generalize eC : Cj P0 (row P0 w) 310 = P1 at e51 hM1 c2 cb
    have r1 : row P1 w = row P0 w := row_b (cb 1 (by decide))
    have eS : st P1 w (row P0 w) = P1 := by rw [← r1]; exact st_row P1 w
    have eread := read_b (T := F 4) (w := w) (D := V.2.2.1) (P := P1) (g := row P0 w) (show len ≤ 500 by omega) (fun j hj => by
      obtain ⟨z1, z2⟩ := f4 j (by omega)
      rw [cb 4 (by decide), p1 4 (by decide)]
      exact ⟨z1, rfl, z2⟩) (by rw [cb 0 (by decide)]; exact p8) (by rw [cb 0 (by decide)]; exact p9) (by rw [cb 0 (by decide)]; exact p10) (by rw [cb 0 (by decide)]; exact p11) hM1
    rw [eS] at eread
    have e4h : ∀ o : Option (oX (Int32 × gX)), bs (dnX2_read V.2.2.1 (nI len)) (fun r4 D5 => bw (wr D5.1 0 1 0) (fun F6 => bw (wr V.1 0 3 (F6 0 4)) (fun F7 => if (F6 0 3) = 0 then wi 8 (V.2.2.2.1 0 1) (fun j11 => bw (hSave V.2.2.2.1, va_up V.2.2.2.2 j11 V.2.1) (fun H13 => some (.inr (r4, (F7, D5.2, (F6, D5.2), H13))))) else some (.inr (r4, (F7, V.2.1, (F6, D5.2), V.2.2.2)))))) = o → dnX4_load V (nI len) = o := by
      intro o ho
      unfold dnX4_load
      rw [if_neg (nI_pos (by omega)), f3, if_pos (nI_le hl (by omega))]
      exact ho
    rcases eread with ⟨D', P', G', g', n', kc', a4, a5, ⟨d3, d4, d11⟩, aF, aW, aR⟩ | ⟨D', P', g', a4, a5, aE, aF⟩
    · -- it is read
      have hM2 := hM1.pf aF
      have hx9 : ((P' 0 4 + 1) - (P' 0 4 + 1) / 9 * 9) = nI ((w + 1) % 9) := by rw [hM2.1, mod9 w hw]
      have q2 : ∀ j : Nat, j < 310 → P' 2 j = row P0 w j := fun j hj => by rw [aF.1 2 (by decide)]; exact c2 j hj
      have e93 := load93b (g := row P0 w) (g' := g') (f0 := row P' ((w + 1) % 9)) hM2 (show (w + 1) % 9 < 9 by omega) (by omega) q2 FU 0 (by omega) (by unfold FU; omega)
      rw [show cpM g' (row P' ((w + 1) % 9)) 0 = row P' ((w + 1) % 9) from by funext k; simp [cpM], show cpM (row P0 w) g' 0 = g' from by funext k; simp [cpM], st_row, st_ext (g := cpM (row P0 w) g' 310) (g' := row P0 w) (fun k hk => by simp [cpM, hk]), st_ext (F := P') (g := cpM g' (row P' ((w + 1) % 9)) 310) (g' := g') (fun k hk => by simp [cpM, hk])] at e93
      have z5 : (st (st P' ((w + 1) % 9) g') w (row P0 w)) 0 5 = nI u := by rw [st_0, st_0, aF.2 5 (by omega), cb 0 (by decide)]; exact p5
      have hX := hJ G' g' n' kc' aW aR
      -- the state behind it
      have hfin : JJ (wr V.1 0 3 (-1), G', (wr D' 0 1 0, G'), (hSave V.2.2.2.1, va_up V.2.2.2.2 x V.2.1)) (wr (wr (st (st P' ((w + 1) % 9) g') w (row P0 w)) 0 4 (nI ((w + 1) % 9))) 0 5 (nI (min 8 (u + 1)))) := by
        refine hX.ld ?_ ?_ ?_ ?_ ?_ ?_
        · rw [wr_b (by decide), wr_b (by decide)]
          funext j
          unfold st
          rw [wr_b (show (1 : Nat) ≠ 0 by decide), wr_b (show (1 : Nat) ≠ 0 by decide), wr_b (show (1 : Nat) ≠ 0 by decide), aF.1 1 (by decide), cb 1 (by decide), p1 1 (by decide)]
          by_cases c : 310 * w ≤ j ∧ j < 310 * w + 310
          · rw [if_pos ⟨rfl, c⟩, if_neg (by omega), prow]
            unfold row
            rw [show 310 * w + (j - 310 * w) = j by omega]
          · rw [if_neg (fun z => c z.2)]
        · rw [wr_o (by decide), wr_i, st_0, wr_o (by decide), wr_i]
        · rw [wr_i, st_0, wr_i]
        · rw [wr_o (by decide), wr_o (by decide), st_0, st_0, aF.2 7 (by omega), cb 0 (by decide)]; exact p7
        · rw [wr_i, wr_o (by decide), wr_o (by decide), st_0, st_0]; exact d11.symm
        · exact (show (wr D' 0 1 0) 0 1 = 0 from wr_i ..)
      refine ws_ok hfin ?_ (r := nI n') (e4h _ ?_) ?_
      · rw [wr_o (by decide), wr_o (by decide), st_0, st_0, aF.2 0 (by omega), cb 0 (by decide)]; exact p0
      · have k3 : (wr D' 0 1 0) 0 3 = 0 := by rw [wr_o (by decide)]; exact d3
        have k4 : (wr D' 0 1 0) 0 4 = -1 := by rw [wr_o (by decide)]; exact d4
        rw [a4, bs_s, bw_s, show (wr ((D', G') : gD).1 0 1 0) 0 4 = -1 from k4, bw_s, if_pos (show (wr ((D', G') : gD).1 0 1 0) 0 3 = 0 from k3), hx, wi_ok hx8 (by decide), bw_s]
      · have hM3 : MS (wr (wr (st (st P' ((w + 1) % 9) g') w (row P0 w)) 0 4 (nI ((w + 1) % 9))) 0 5 (nI (min 8 (u + 1)))) ((w + 1) % 9) := ⟨by rw [wr_o (by decide), wr_i], by omega⟩
        have hsz : dnX5_size (wr (wr (st (st P' ((w + 1) % 9) g') w (row P0 w)) 0 4 (nI ((w + 1) % 9))) 0 5 (nI (min 8 (u + 1)))) = some (nI n') := size_ hM3 (by
          have : row (wr (wr (st (st P' ((w + 1) % 9) g') w (row P0 w)) 0 4 (nI ((w + 1) % 9))) 0 5 (nI (min 8 (u + 1)))) ((w + 1) % 9) 0 = g' 0 := by
            rw [row_w0, row_w0]
            show (st (st P' ((w + 1) % 9) g') w (row P0 w)) 1 (310 * ((w + 1) % 9) + 0) = _
            rw [st_o (by decide) (by omega), st_1 (by decide)]
          rw [this]; exact aW.1.2.2)
        unfold dnX5_load
        rw [bw_s, f2', i3, bp_s, right1, bs_s, if_neg (by decide), bw_s, bw_s, bw_s, bw_s, bw_s, eP, show lpX5_load_51 FU 0 P0 = _ from e51, bp_s, a5, bs_s, show (st P' w g') 0 4 = P' 0 4 from st_0 .., hx9, show lpX5_load_93 1 (nI ((w + 1) % 9)) FU 0 (st P' w g') = _ from e93, bp_s]
        show (if (1 : Int32) = 0 then _ else bw (wr (st (st P' ((w + 1) % 9) g') w (row P0 w)) 0 4 (nI ((w + 1) % 9))) _) = _
        rw [if_neg (show ¬ (1 : Int32) = 0 by decide), bw_s, wr_o (by decide), z5]
        by_cases h8 : 8 ≤ u
        · rw [if_pos (show (8 : Int32) ≤ nI u from nI_le (a := 8) h8 (by omega)), bw_s]
          rw [show min 8 (u + 1) = u by omega] at hsz ⊢
          rw [hsz, bp_s]
        · rw [if_neg (show ¬ (8 : Int32) ≤ nI u from nI_ge (b := 8) (by omega) (by omega)), nI_1, bw_s]
          rw [show min 8 (u + 1) = u + 1 by omega] at hsz ⊢
          rw [hsz, bp_s]
    · -- it has an error
      have hM2 := hM1.pf aF
      have hx9 : ((P' 0 4 + 1) - (P' 0 4 + 1) / 9 * 9) = nI ((w + 1) % 9) := by rw [hM2.1, mod9 w hw]
      have q2 : ∀ j : Nat, j < 310 → P' 2 j = row P0 w j := fun j hj => by rw [aF.1 2 (by decide)]; exact c2 j hj
      have e93 := load93a (x3 := nI ((w + 1) % 9)) (g := row P0 w) (g' := g') hM2 q2 FU 0 (by omega) (by unfold FU; omega)
      rw [show cpM (row P0 w) g' 0 = g' from by funext k; simp [cpM], st_ext (g := cpM (row P0 w) g' 310) (g' := row P0 w) (fun k hk => by simp [cpM, hk])] at e93
      have hfin : JJ (wr V.1 0 3 (D'.1 0 4), V.2.1, (wr D'.1 0 1 0, D'.2), V.2.2.2) (st P' w (row P0 w)) := by
        refine JJ.ld (A := V.1) (R := V.2.2.1) (X := F) h ?_ ?_ ?_ ?_ ?_ ?_
        · funext j
          unfold st
          rw [aF.1 1 (by decide), cb 1 (by decide), p1 1 (by decide)]
          by_cases c : 310 * w ≤ j ∧ j < 310 * w + 310
          · rw [if_pos ⟨rfl, c⟩, prow]
            unfold row
            rw [show 310 * w + (j - 310 * w) = j by omega]
          · rw [if_neg (fun z => c z.2)]
        · rw [st_0, hM2.1]
          have := hM.1
          rw [wr_o (by decide)] at this
          exact this.symm
        · rw [st_0, aF.2 5 (by omega), cb 0 (by decide), p5]
          rw [wr_o (by decide)] at h5
          exact h5.symm
        · rw [st_0, aF.2 7 (by omega), cb 0 (by decide)]; exact p7
        · rw [wr_i, st_0]; exact aE.2.2
        · exact (show (wr D'.1 0 1 0) 0 1 = 0 from wr_i ..)
      refine ws_ok hfin ?_ (r := D'.1 0 3) (e4h _ ?_) ?_
      · rw [st_0, aF.2 0 (by omega), cb 0 (by decide)]; exact p0
      · have k3 : ¬ (wr D'.1 0 1 0) 0 3 = 0 := by rw [wr_o (by decide)]; exact aE.1
        have k4 : (wr D'.1 0 1 0) 0 4 = D'.1 0 4 := wr_o (by decide)
        rw [a4, bs_s, bw_s, k4, bw_s, if_neg k3]
      · unfold dnX5_load
        rw [bw_s, f2', i3, bp_s, right1, bs_s, if_neg (by decide), bw_s, bw_s, bw_s, bw_s, bw_s, eP, show lpX5_load_51 FU 0 P0 = _ from e51, bp_s, a5, bs_s, show (st P' w g') 0 4 = P' 0 4 from st_0 .., hx9, show lpX5_load_93 0 (nI ((w + 1) % 9)) FU 0 (st P' w g') = _ from e93, bp_s, if_pos rfl]
        show some ((st P' w (row P0 w)) 0 10, st P' w (row P0 w)) = _
        rw [st_0, ← aE.2.1]
  · refine ws_th (b := 0) (t := 1) (E := "java/lang/IllegalArgumentException") h (by decide) (by decide) (by decide) ?_ ?_
    · unfold dnX4_load
      by_cases c : x1 < 0
      · rw [if_pos c]
      · rw [if_neg c, f3, if_neg (Int32.not_le.mpr (i1.resolve_left c))]
    · unfold dnX5_load
      rw [bw_s, f2', i3, bp_s, right0 F (by decide), bs_s, if_pos rfl]
