/-! what can be undone -/
theorem WRst {F : gF} {w n kc : Nat} {G : gR} {g : Nat → Int32} {f : Nat → Int32} (hW : WF g n kc) (hR : RR G g n kc) (e : ∀ k : Nat, k < 310 → f k = g k) : WF f n kc ∧ RR G f n kc :=
  ⟨hW.cg (fun k hk _ _ _ _ => e k hk), hR.cg hW.1.2.1 hW.2.1.1 (fun k hk _ _ _ _ => e k hk) (fun _ _ _ _ _ => rfl) (fun _ _ => rfl) rfl (by rw [e 7 (by decide)]; exact hR.1.2.2.2.1) (by rw [e 8 (by decide)]; exact hR.1.2.2.2.2.1) (by rw [e 9 (by decide)]; exact hR.1.2.2.2.2.2.1) (by rw [e 10 (by decide)]; exact hR.1.2.2.2.2.2.2.1)⟩
def cpM (f g : Nat → Int32) (j : Nat) : Nat → Int32 := fun k => if k < j then f k else g k
theorem cpM_u (f g : Nat → Int32) (j : Nat) : upd (cpM f g j) j (f j) = cpM f g (j + 1) := by
  funext k
  simp only [upd, cpM]
  by_cases e : k = j
  · rw [if_pos e, if_pos (by omega), e]
  · rw [if_neg e]
    by_cases h : k < j
    · rw [if_pos h, if_pos (by omega)]
    · rw [if_neg h, if_neg (by omega)]
theorem change12 {F : gF} {w w' : Nat} (hM : MS F w) (hw' : w' < 9) (hne : w ≠ w') : ∀ (N j : Nat), j ≤ 310 → 310 < N + j → lpX5_change_12 (nI w') N (nI j) (st F w' (cpM (row F w) (row F w') j)) = some (0, st F w' (cpM (row F w) (row F w') 310)) := by
  intro N
  induction N with
  | zero => intro j q1 q2; omega
  | succ N ih =>
    intro j q1 q2
    unfold lpX5_change_12
    by_cases hj : 310 ≤ j
    · rw [if_pos (show (310 : Int32) ≤ nI j from nI_le (a := 310) hj (by omega)), show j = 310 by omega]
    · have hw := hM.2
      have hM2 : MS (st F w' (cpM (row F w) (row F w') j)) w := ⟨by rw [st_0]; exact hM.1, hw⟩
      rw [if_neg (show ¬ (310 : Int32) ≤ nI j from nI_ge (b := 310) (by omega) (by omega)), getr hM2 (by omega), bp_s, show row (st F w' (cpM (row F w) (row F w') j)) w j = row F w j from st_o (by omega) hne, show (310 : Int32) = nI 310 from rfl, nI_mul, nI_add, wi_ok (by omega) (by decide), bw_s, st_w (by omega), cpM_u, nI_1]
      exact ih (j + 1) (by omega) (by omega)
theorem mod9 : ∀ w : Nat, w < 9 → (nI w + 1) - (nI w + 1) / 9 * 9 = nI ((w + 1) % 9) := by decide
theorem mod8 : ∀ x : Nat, x < 8 → (nI x + 1) - (nI x + 1) / 8 * 8 = nI ((x + 1) % 8) := by decide
theorem st_ext {F : gF} {w : Nat} {g g' : Nat → Int32} (h : ∀ k : Nat, k < 310 → g k = g' k) : st F w g = st F w g' := by
  funext a j
  unfold st
  by_cases c : a = 1 ∧ 310 * w ≤ j ∧ j < 310 * w + 310
  · rw [if_pos c, if_pos c]; exact h _ (by omega)
  · rw [if_neg c, if_neg c]
theorem changeM {F : gF} {w u : Nat} (hM : MS F w) (hu : u ≤ 8) (h5 : F 0 5 = nI u) : dnX5_change F = some (st (wr (wr F 0 4 (nI ((w + 1) % 9))) 0 5 (nI (min 8 (u + 1)))) ((w + 1) % 9) (row F w)) := by
  have hw := hM.2
  have e0 : cpM (row F w) (row F ((w + 1) % 9)) 0 = row F ((w + 1) % 9) := by funext k; simp [cpM]
  have e := change12 hM (show (w + 1) % 9 < 9 by omega) (by omega) FU 0 (by omega) (by unfold FU; omega)
  rw [e0, st_row] at e
  unfold dnX5_change
  rw [hM.1, mod9 w hw, show lpX5_change_12 (nI ((w + 1) % 9)) FU 0 F = _ from e, bp_s, st_w0, bw_s, st_0, wr_o (by decide), h5, st_w0, st_w0]
  rw [st_ext (g := cpM (row F w) (row F ((w + 1) % 9)) 310) (g' := row F w) (fun k hk => by simp [cpM, hk])]
  by_cases h8 : 8 ≤ u
  · rw [if_pos (show (8 : Int32) ≤ nI u from nI_le (a := 8) h8 (by omega)), bw_s, show min 8 (u + 1) = u by omega]
  · rw [if_neg (show ¬ (8 : Int32) ≤ nI u from nI_ge (b := 8) (by omega) (by omega)), nI_1, bw_s, st_ext (g := cpM (row F w) (row F ((w + 1) % 9)) 310) (g' := row F w) (fun k hk => by simp [cpM, hk]), show min 8 (u + 1) = u + 1 by omega]
/-- what the calls that change begin with -/
theorem JJ.c {V : gX} {F : gF} (h : JJ V F) : ∃ (w n kc : Nat) (F2 : gF) (w' x : Nat), MS (wr F 0 0 0) w ∧ WF (row (wr F 0 0 0) w) n kc ∧ RR V.2.1 (row (wr F 0 0 0) w) n kc ∧ MS F2 w' ∧ dnX5_change (wr F 0 0 0) = some (st F2 w' (row (wr F 0 0 0) w)) ∧ x < 8 ∧ V.2.2.2.1 0 1 = nI x ∧ (∀ (G' : gR) (g' : Nat → Int32) (n' kc' : Nat), WF g' n' kc' → RR G' g' n' kc' → JJ (V.1, G', V.2.2.1, (hSave V.2.2.2.1, va_up V.2.2.2.2 x V.2.1)) (st F2 w' g') ∧ (st F2 w' g') 0 0 = 0) := by
  obtain ⟨⟨w, h1, ⟨n, kc, h2, h3⟩, u, x, q1, q2, q3, q4, q5, q6⟩, h4, f, f1, f2, f3, f4⟩ := h
  have hw := h1.2
  refine ⟨w, n, kc, wr (wr (wr F 0 0 0) 0 4 (nI ((w + 1) % 9))) 0 5 (nI (min 8 (u + 1))), (w + 1) % 9, x, h1.t 0, by rw [row_w0]; exact h2, by rw [row_w0]; exact h3, ⟨by rw [wr_o (by decide), wr_i], by omega⟩, changeM (h1.t 0) q1 (by rw [wr_o (by decide)]; exact q3), q2, q5, fun G' g' n' kc' hW' hR' => ⟨⟨⟨(w + 1) % 9, ⟨by rw [st_0, wr_o (by decide), wr_i], by omega⟩, ⟨n', kc', WRst (F := F) (w := w) hW' hR' (fun k hk => row_st hk)⟩, min 8 (u + 1), (x + 1) % 8, by omega, by omega, by rw [st_0, wr_i], ?_, ?_, fun j hj => ?_⟩, ?_, f, f1, ?_, f3, fun j hj => ?_⟩, ?_⟩⟩
  · show hSave V.2.2.2.1 0 2 = _
    unfold hSave
    simp only [wr, if_true, upd]
    rw [q4, nI_1]
    by_cases h8 : 8 < u + 1
    · rw [if_pos (show (8 : Int32) < nI (u + 1) from nI_lt (a := 8) h8 (by omega)), show min 8 (u + 1) = 8 by omega]; rfl
    · rw [if_neg (show ¬ (8 : Int32) < nI (u + 1) from nI_nlt (b := u + 1) (a := 8) (by omega) (by omega)), show min 8 (u + 1) = u + 1 by omega]
  · show hSave V.2.2.2.1 0 1 = _
    unfold hSave
    simp only [wr, if_true, upd]
    rw [if_neg (by decide), q5, mod8 x q2]
  · show ∃ n kc : Nat, WF _ n kc ∧ RR (va_up V.2.2.2.2 x V.2.1 (((x + 1) % 8 + 7 - j) % 8)) _ n kc
    by_cases h0 : j = 0
    · subst h0
      rw [show ((w + 1) % 9 + 8 - 0) % 9 = w by omega, show ((x + 1) % 8 + 7 - 0) % 8 = x by omega, show va_up V.2.2.2.2 x V.2.1 x = V.2.1 from by simp [va_up]]
      exact ⟨n, kc, WRst (F := F) (w := w) h2 h3 (fun k hk => by
        show (st _ _ _) 1 (310 * w + k) = _
        rw [st_o hk (by omega), wr_b (by decide), wr_b (by decide), wr_b (by decide)]; rfl)⟩
    · obtain ⟨n1, kc1, p1, p2⟩ := q6 (j - 1) (by omega)
      rw [show ((w + 1) % 9 + 8 - j) % 9 = (w + 8 - (j - 1)) % 9 by omega, show ((x + 1) % 8 + 7 - j) % 8 = (x + 7 - (j - 1)) % 8 by omega, show va_up V.2.2.2.2 x V.2.1 ((x + 7 - (j - 1)) % 8) = V.2.2.2.2 ((x + 7 - (j - 1)) % 8) from by unfold va_up; rw [if_neg (by omega)]]
      exact ⟨n1, kc1, WRst (F := F) (w := w) p1 p2 (fun k hk => by
        show (st _ _ _) 1 (310 * ((w + 8 - (j - 1)) % 9) + k) = _
        rw [st_o hk (by omega), wr_b (by decide), wr_b (by decide), wr_b (by decide)]; rfl)⟩
  · rw [st_0, wr_o (by decide), wr_o (by decide), wr_o (by decide)]; exact h4
  · rw [st_0, wr_o (by decide), wr_o (by decide), wr_o (by decide)]; exact f2
  · rw [st_b (by decide), wr_b (by decide), wr_b (by decide), wr_b (by decide)]; exact f4 j hj
  · rw [st_0, wr_o (by decide), wr_o (by decide), wr_i]
def WS (es : List String) (V : gX) (fo : Nat → Int64) (o4 : Option (oX (Int32 × gX))) (o5 : Option (Int32 × gF)) (V' : gX) (F' : gF) (fo' : Nat → Int64) : Prop :=
  ∃ (o : oX (Int32 × gX)) (b : Int32), o4 = some o ∧ (∀ E, o = .inl E → E ∈ es) ∧ o5 = some (b, F') ∧ F' 0 0 = (lwS es V fo o).1 ∧ ((lwS es V fo o).1 = 0 → (lwS es V fo o).2.2 0 = b.toInt64) ∧ V' = (lwS es V fo o).2.1 ∧ fo' = (lwS es V fo o).2.2
theorem ws_ok {es : List String} {V V1 : gX} {fo : Nat → Int64} {o4 : Option (oX (Int32 × gX))} {o5 : Option (Int32 × gF)} {F1 : gF} {r : Int32} (hJ : JJ V1 F1) (h0 : F1 0 0 = 0) (h4 : o4 = some (.inr (r, V1))) (h5 : o5 = some (r, F1)) : ∃ V' F' fo', WS es V fo o4 o5 V' F' fo' ∧ JJ V' F' :=
  ⟨V1, F1, vp_updL fo 0 r.toInt64, ⟨.inr (r, V1), r, h4, (fun E h => by cases h), h5, h0, (fun _ => by simp [lwS, vp_updL]), rfl, rfl⟩, hJ⟩
theorem ws_th {es : List String} {V : gX} {fo : Nat → Int64} {o4 : Option (oX (Int32 × gX))} {o5 : Option (Int32 × gF)} {F : gF} {b t : Int32} {E : String} (hJ : JJ V F) (hE : E ∈ es) (ht : cdN es E 1 = t) (hne : t ≠ 0) (h4 : o4 = some (.inl E)) (h5 : o5 = some (b, wr F 0 0 t)) : ∃ V' F' fo', WS es V fo o4 o5 V' F' fo' ∧ JJ V' F' :=
  ⟨V, wr F 0 0 t, fo, ⟨.inl E, b, h4, (fun E' h => by cases h; exact hE), h5, by rw [wr_i]; exact ht.symm, (fun h => absurd (ht.symm.trans h) hne), rfl, rfl⟩, hJ.t t⟩
theorem val_em (v : Int32) : (-999 ≤ v ∧ v ≤ 999) ∨ (v < -999 ∨ 999 < v) := by
  by_cases h1 : -999 ≤ v
  · by_cases h2 : v ≤ 999
    · exact Or.inl ⟨h1, h2⟩
    · exact Or.inr (Or.inr (Int32.not_le.mp h2))
  · exact Or.inr (Or.inl (Int32.not_le.mp h1))
theorem valM {v : Int32} (h : -999 ≤ v ∧ v ≤ 999) : dnX5_isValue v = some 1 := by
  unfold dnX5_isValue dnX5_isIn
  rw [if_neg (Int32.not_lt.mpr h.1), if_neg (Int32.not_lt.mpr h.2), bp_s]; rfl
theorem valM0 {v : Int32} (h : v < -999 ∨ 999 < v) : dnX5_isValue v = some 0 := by
  unfold dnX5_isValue dnX5_isIn
  by_cases c : v < -999
  · rw [if_pos c, bp_s]; rfl
  · rw [if_neg c, if_pos (h.resolve_left c), bp_s]; rfl
theorem demV {V : gX} {v : Int32} (h : -999 ≤ v ∧ v ≤ 999) : dnX4_demandValue V v = some (.inr ()) := by
  unfold dnX4_demandValue
  rw [if_neg (Int32.not_lt.mpr h.1), if_pos h.2]
theorem demV0 {V : gX} {v : Int32} (h : v < -999 ∨ 999 < v) : dnX4_demandValue V v = some (.inl "java/lang/IllegalArgumentException") := by
  unfold dnX4_demandValue
  by_cases c : v < -999
  · rw [if_pos c]
  · rw [if_neg c, if_neg (Int32.not_le.mpr (h.resolve_left c))]
theorem s_set (x1 x2 x3 x4 x5 : Int32) (V : gX) (F : gF) (fo : Nat → Int64) (h : JJ V F) : ∃ V' F' fo', LR 20 x1 x2 x3 x4 x5 V F fo V' F' fo' ∧ JJ V' F' := by
  obtain ⟨w, n, kc, F2, w', x, hM, hW, hR, hM2, hch, hx8, hx, hJ⟩ := h.c
  obtain ⟨⟨n1, n40, hn⟩, -⟩ := id hW
  have hc : V.2.1.1 0 3 = nI n := hR.1.1.trans hn
  show ∃ V' F' fo', WS _ V fo (dnX4_set V x1 x2) (dnX5_set F x1 x2) V' F' fo' ∧ JJ V' F'
  rcases pl_em n40 x1 with ⟨p, hp, rfl⟩ | hx1
  · rcases val_em x2 with hv | hv
    · obtain ⟨G', g', e4, e5, hW', hR'⟩ := change_b hM2 hW hR hp hv.1 hv.2
      obtain ⟨hJ', h0⟩ := hJ G' g' n kc hW' hR'
      refine ws_ok hJ' h0 (r := row (wr F 0 0 0) w (12 + p)) ?_ ?_
      · unfold dnX4_set
        rw [demC hc n40 hp, bx_r, demV hv, bx_r, hx, wi_ok hx8 (by decide), bw_s, e4, bs_s]
      · unfold dnX5_set
        rw [bw_s, placeM hM hn n40 hp, bp_s, right1, bs_s, if_neg (by decide), valM hv, bp_s, right1, bs_s, if_neg (by decide), hch, bp_s, e5, bs_s]
    · refine ws_th (b := 0) (t := 2) (E := "java/lang/IllegalArgumentException") h (by decide) (by decide) (by decide) ?_ ?_
      · unfold dnX4_set
        rw [demC hc n40 hp, bx_r, demV0 hv, bx_l]
      · unfold dnX5_set
        rw [bw_s, placeM hM hn n40 hp, bp_s, right1, bs_s, if_neg (by decide), valM0 hv, bp_s, right0 F (by decide), bs_s, if_pos rfl]
  · refine ws_th (b := 0) (t := 1) (E := "java/lang/IndexOutOfBoundsException") h (by decide) (by decide) (by decide) ?_ ?_
    · unfold dnX4_set
      rw [demC0 hc hx1, bx_l]
    · unfold dnX5_set
      rw [bw_s, placeM0 hM hn n1 n40 hx1, bp_s, right0 F (by decide), bs_s, if_pos rfl]
theorem s_ask (x1 x2 x3 x4 x5 : Int32) (V : gX) (F : gF) (fo : Nat → Int64) (h : JJ V F) : ∃ V' F' fo', LR 21 x1 x2 x3 x4 x5 V F fo V' F' fo' ∧ JJ V' F' := by
  obtain ⟨w, n, kc, F2, w', x, hM, hW, hR, hM2, hch, hx8, hx, hJ⟩ := h.c
  obtain ⟨⟨n1, n40, hn⟩, -⟩ := id hW
  have hc : V.2.1.1 0 3 = nI n := hR.1.1.trans hn
  show ∃ V' F' fo', WS _ V fo (dnX4_ask V x1 x2) (dnX5_ask F x1 x2) V' F' fo' ∧ JJ V' F'
  rcases str_em n40 x1 x2 with ⟨a, b, hab, hb, rfl, rfl⟩ | hx1 | ⟨a, b, hab, ha, rfl, rfl⟩
  · obtain ⟨G', g', e4, e5, hW', hR', -⟩ := question_b hM2 hW hR hab hb
    obtain ⟨hJ', h0⟩ := hJ G' g' n kc hW' hR'
    refine ws_ok hJ' h0 (r := nI (lm (row (wr F 0 0 0) w) a (b - a))) ?_ ?_
    · unfold dnX4_ask
      rw [strC hc n40 hab hb, bx_r, hx, wi_ok hx8 (by decide), bw_s, e4, bs_s]
    · unfold dnX5_ask
      rw [bw_s, strM hM hn n40 hab hb, bs_s, if_neg (by decide), hch, bp_s, e5, bs_s]
  · refine ws_th (b := 0) (t := 1) (E := "java/lang/IndexOutOfBoundsException") h (by decide) (by decide) (by decide) ?_ ?_
    · unfold dnX4_ask
      rw [strC1 hc n40 hx1, bx_l]
    · unfold dnX5_ask
      rw [bw_s, strM1 hM hn n1 n40 hx1, bs_s, if_pos rfl]
  · refine ws_th (b := 0) (t := 2) (E := "java/lang/IllegalArgumentException") h (by decide) (by decide) (by decide) ?_ ?_
    · unfold dnX4_ask
      rw [strC2 hc n40 hab ha, bx_l]
    · unfold dnX5_ask
      rw [bw_s, strM2 hM hn n40 hab ha, bs_s, if_pos rfl]
theorem s_keep (x1 x2 x3 x4 x5 : Int32) (V : gX) (F : gF) (fo : Nat → Int64) (h : JJ V F) : ∃ V' F' fo', LR 22 x1 x2 x3 x4 x5 V F fo V' F' fo' ∧ JJ V' F' := by
  obtain ⟨w, n, kc, F2, w', x, hM, hW, hR, hM2, hch, hx8, hx, hJ⟩ := h.c
  obtain ⟨⟨n1, n40, hn⟩, ⟨k8, hk⟩, -⟩ := id hW
  have hc : V.2.1.1 0 3 = nI n := hR.1.1.trans hn
  have hc3 : V.2.1.1 3 2 = nI kc := hR.1.2.2.2.2.2.2.2.trans hk
  have hg : dnX5_get (wr F 0 0 0) 6 = some (nI kc) := by rw [show (6 : Int32) = nI 6 from rfl, getr hM (by decide), hk]
  show ∃ V' F' fo', WS _ V fo (dnX4_keep V x1 x2) (dnX5_keep F x1 x2) V' F' fo' ∧ JJ V' F'
  rcases str_em n40 x1 x2 with ⟨a, b, hab, hb, rfl, rfl⟩ | hx1 | ⟨a, b, hab, ha, rfl, rfl⟩
  · by_cases h8 : kc < 8
    · obtain ⟨L, hl, hL, hC, hv⟩ := kl_of hW hR
      obtain ⟨G', e4, hC', c1, c2, c3⟩ := addC (a := a) (b := b) hC (by omega)
      obtain ⟨g', e5, hL', c5⟩ := keepsM (a := a) (b := b) hM2 hL (by omega)
      have hv' : KLv n (L ++ [(a, b)]) := by
        intro k p1 p2 q
        by_cases e : k < L.length
        · rw [List.getElem?_append_left e] at q; exact hv k p1 p2 q
        · rw [List.getElem?_append_right (by omega)] at q
          have hq := kl_lt q
          have hq : k - L.length < 1 := hq
          rw [show k - L.length = 0 by omega] at q
          obtain ⟨rfl, rfl⟩ := Prod.mk.inj (Option.some.inj (show some (a, b) = some (p1, p2) from q))
          exact ⟨hab, hb⟩
      obtain ⟨hW', hR'⟩ := WR.k hW hR c5 c1 c2 hL' hC' hv'
      obtain ⟨hJ', h0⟩ := hJ G' g' n _ hW' hR'
      refine ws_ok hJ' h0 (r := nI (L.length + 1)) ?_ ?_
      · unfold dnX4_keep
        rw [strC hc n40 hab hb, bx_r, hc3, if_pos (show nI kc < (8 : Int32) from nI_lt (b := 8) h8 (by decide)), hx, wi_ok hx8 (by decide), bw_s, e4, bp_s, c3]
      · unfold dnX5_keep
        rw [bw_s, strM hM hn n40 hab hb, bs_s, if_neg (by decide), hg, bp_s, if_neg (show ¬ (8 : Int32) ≤ nI kc from nI_ge (b := 8) h8 (by decide)), right1, bs_s, if_neg (by decide), hch, bp_s, e5, bs_s]
    · refine ws_th (b := 0) (t := 3) (E := "java/lang/IllegalStateException") h (by decide) (by decide) (by decide) ?_ ?_
      · unfold dnX4_keep
        rw [strC hc n40 hab hb, bx_r, hc3, if_neg (show ¬ nI kc < (8 : Int32) from nI_nlt (a := kc) (b := 8) (by omega) (by omega))]
      · unfold dnX5_keep
        rw [bw_s, strM hM hn n40 hab hb, bs_s, if_neg (by decide), hg, bp_s, if_pos (show (8 : Int32) ≤ nI kc from nI_le (a := 8) (by omega) (by omega)), right0 F (by decide), bs_s, if_pos rfl]
  · refine ws_th (b := 0) (t := 1) (E := "java/lang/IndexOutOfBoundsException") h (by decide) (by decide) (by decide) ?_ ?_
    · unfold dnX4_keep
      rw [strC1 hc n40 hx1, bx_l]
    · unfold dnX5_keep
      rw [bw_s, strM1 hM hn n1 n40 hx1, bs_s, if_pos rfl]
  · refine ws_th (b := 0) (t := 2) (E := "java/lang/IllegalArgumentException") h (by decide) (by decide) (by decide) ?_ ?_
    · unfold dnX4_keep
      rw [strC2 hc n40 hab ha, bx_l]
    · unfold dnX5_keep
      rw [bw_s, strM2 hM hn n40 hab ha, bs_s, if_pos rfl]
