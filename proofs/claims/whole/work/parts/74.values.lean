/-! the first part of a text: the rule and the values -/
theorem signM1 {T : Nat → Int32} {len q w : Nat} {D P : gF} {g : Nat → Int32} {c : Int32} (h : PS T len q D P) (e : tb T len q = c) : dnX5_sign (st P w g) c = some (1, st (wr P 0 9 (nI (q + 1))) w g) := by
  unfold dnX5_sign
  rw [h.here, bs_s, if_pos e, st_0, wr_i, nI_1, st_w0, wr_wr, bw_s]
theorem signM0 {T : Nat → Int32} {len q w : Nat} {D P : gF} {g : Nat → Int32} {c : Int32} (h : PS T len q D P) (e : tb T len q ≠ c) : dnX5_sign (st P w g) c = some (0, st (wr (wr (wr P 0 9 (nI q)) 0 10 (-2)) 0 11 (nI q)) w g) := by
  unfold dnX5_sign
  rw [h.here, bs_s, if_neg e, failM (by rw [wr_o (by decide)]; exact h.2.2.2.2.2.1), bs_s, st_0, wr_i]
  rfl
theorem nextC {T : Nat → Int32} {len q : Nat} {D : gD} {P : gF} (h : PS T len q D.1 P) (c : Int32) : dnX2_isNext D c = some (if tb T len q = c then 1 else 0) := by
  have h5 := h.1.1
  obtain ⟨p, hp, hs⟩ := h.2.2.1
  have s2 := hs.2.1
  unfold dnX2_isNext
  rw [h.2.1, byteC h.1 (by omega), bp_s]
  split <;> rfl
theorem numC0 {T : Nat → Int32} {len q : Nat} {D : gD} {P : gF} {lo hi : Int32} (h : PS T len q D.1 P) (e : dnX2_isDigit (tb T len q) = some 0) : dnX2_readNumber D lo hi = some (0, (wr (wr D.1 0 3 (-2)) 0 4 (nI q), D.2)) := by
  have h5 := h.1.1
  obtain ⟨p, hp, hs⟩ := h.2.2.1
  have s2 := hs.2.1
  unfold dnX2_readNumber
  rw [h.2.1, byteC h.1 (by omega), bp_s, e, bp_s, if_pos rfl, failC, bs_s]
  rfl
theorem valC0 {T : Nat → Int32} {len q : Nat} {D : gD} {P : gF} (h : PS T len q D.1 P) (e1 : tb T len q ≠ 45) (e : dnX2_isDigit (tb T len q) = some 0) : dnX2_readValue D = some (0, (wr (wr D.1 0 3 (-2)) 0 4 (nI q), D.2)) := by
  unfold dnX2_readValue
  rcases hasSignC h (show (45 : Int32) ≠ -1 by decide) with ⟨z, -⟩ | ⟨-, k2⟩
  · exact absurd z e1
  · rw [k2, bs_s, numC0 h e, bs_s, if_pos rfl]
theorem ivh_em {T : Nat → Int32} {len q w : Nat} {D P : gF} {g : Nat → Int32} (h : PS T len q D P) : (dnX5_isValueHere (st P w g) = some (1, st (wr P 0 9 (nI q)) w g) ∧ (tb T len q = 45 ∨ (tb T len q ≠ 45 ∧ dnX2_isDigit (tb T len q) = some 1 ∧ tb T len q ≠ 59))) ∨ (dnX5_isValueHere (st P w g) = some (0, st (wr P 0 9 (nI q)) w g) ∧ tb T len q ≠ 45 ∧ dnX2_isDigit (tb T len q) = some 0) := by
  unfold dnX5_isValueHere
  rw [h.here, bs_s, h.h.here, bs_s, wr_wr]
  by_cases e : tb T len q = 45
  · rw [if_pos e]; exact Or.inl ⟨rfl, Or.inl e⟩
  · rw [if_neg e]
    rcases dig_em (tb T len q) with ⟨d2, d5⟩ | ⟨d2, d5, t, t1, t2, et⟩
    · rw [d5, bp_s, if_pos rfl]; exact Or.inr ⟨rfl, e, d2⟩
    · rw [d5, bp_s, if_neg (by decide)]
      refine Or.inl ⟨rfl, Or.inr ⟨e, d2, ?_⟩⟩
      rw [et]
      intro z
      have := (nI_eq (b := 59) (by omega) (by omega)).mp z
      omega
def V0 (g : Nat → Int32) (n : Nat) : Prop := (n ≤ 40 ∧ g 0 = nI n) ∧ g 6 = nI 0 ∧ (g 1 = 0 ∨ g 1 = 1 ∨ g 1 = 2) ∧ (∃ m : Nat, 1 ≤ m ∧ m ≤ 8 ∧ g 2 = nI m) ∧ (∀ p : Nat, p < n → -999 ≤ g (12 + p) ∧ g (12 + p) ≤ 999)
theorem V0.w0 {g : Nat → Int32} {n : Nat} (h : V0 g n) (h1 : 1 ≤ n) : W0 g n 0 := ⟨⟨h1, h.1.1, h.1.2⟩, ⟨by decide, h.2.1⟩, h.2.2.1, h.2.2.2.1, fun k hk => by omega, h.2.2.2.2⟩
theorem add_b {w n : Nat} {G : gR} {P : gF} {g : Nat → Int32} {v : Int32} (hM : MS P w) (h : V0 g n) (hR : R0 G g n 0) (hn : n < 40) (h1 : -999 ≤ v) (h2 : v ≤ 999) : ∃ (G' : gR) (g' : Nat → Int32), dnX1_addAtEnd G v = some G' ∧ (∀ k5 : gF → Option (Nat × Int32 × gF), bp (dnX5_size (st P w g)) (fun r16 => bp (dnX5_put0 (st P w g) (12 + r16) v) (fun F18 => bp (dnX5_adds F18 0 1) k5)) = k5 (st P w g')) ∧ V0 g' (n + 1) ∧ R0 G' g' (n + 1) 0 := by
  obtain ⟨⟨n40, h0⟩, h6, hr, hm, hv⟩ := h
  obtain ⟨⟨s0, s1, s2, s7, s8, s9, s10, s6⟩, hV, -⟩ := hR
  have ek : ∀ k : Nat, k ≠ 0 → k ≠ 12 + n → upd (upd g (12 + n) v) 0 (nI (n + 1)) k = g k := fun k k0 k1 => by simp only [upd]; rw [if_neg k0, if_neg k1]
  have ev : upd (upd g (12 + n) v) 0 (nI (n + 1)) (12 + n) = v := by simp only [upd]; rw [if_neg (by omega), if_pos trivial]
  have e0 : upd (upd g (12 + n) v) 0 (nI (n + 1)) 0 = nI (n + 1) := by simp [upd]
  refine ⟨wR (wR G 1 n v) 0 3 (nI (n + 1)), upd (upd g (12 + n) v) 0 (nI (n + 1)), ?_, fun k5 => ?_, ⟨⟨by omega, e0⟩, by rw [ek 6 (by decide) (by omega)]; exact h6, by rw [ek 1 (by decide) (by omega)]; exact hr, by rw [ek 2 (by decide) (by omega)]; exact hm, fun p hp => ?_⟩, ⟨⟨?_, ?_, ?_, ?_, ?_, ?_, ?_, ?_⟩, fun p hp => ?_, fun k hk => by omega⟩⟩
  · unfold dnX1_addAtEnd
    rw [s0, h0, storeC hn, bp_s, show (wR G 1 n v).1 0 3 = nI n from s0.trans h0, nI_1, bw_s]
  · have e1 : upd g (12 + n) v 0 + 1 = nI (n + 1) := by simp only [upd]; rw [if_neg (by omega), h0, nI_1]
    rw [show dnX5_size (st P w g) = some (nI n) from size_ (hM.s g) (by rw [row_st (by decide)]; exact h0), bp_s, show (12 : Int32) = nI 12 from rfl, nI_add, put_ hM (by omega), bp_s, show (0 : Int32) = nI 0 from rfl, adds_ hM (by decide), bp_s, e1]
  · by_cases e : p = n
    · rw [e, ev]; exact ⟨h1, h2⟩
    · rw [ek _ (by omega) (by omega)]; exact hv p (by omega)
  · rw [e0]; simp [wR, wr, upd]
  · rw [ek 1 (by decide) (by omega)]; exact s1
  · rw [ek 2 (by decide) (by omega)]; exact s2
  · rw [ek 7 (by decide) (by omega)]; exact s7
  · rw [ek 8 (by decide) (by omega)]; exact s8
  · rw [ek 9 (by decide) (by omega)]; exact s9
  · rw [ek 10 (by decide) (by omega)]; exact s10
  · rw [ek 6 (by decide) (by omega)]; exact s6
  · by_cases e : p = n
    · rw [e, ev]; simp [wR, wr, upd]
    · rw [ek _ (by omega) (by omega)]
      have : (wR (wR G 1 n v) 0 3 (nI (n + 1))).1 1 p = G.1 1 p := by simp [wR, wr, upd, e]
      rw [this]; exact hV p (by omega)
def CV (N n : Nat) (D : gD) : Option (Int32 × gD) := bp (lpX2_readValues_2 N (nI n) D) (fun z2_17 => if z2_17.1 = 0 then some (0, z2_17.2) else bs (dnX2_hasSign z2_17.2 59) (fun r20 D21 => if r20 = 0 then bs (dnX2_refuseSurplusValue D21) (fun r26 D27 => rzt r26 D27) else bp (dnX1_buildAll D21.2) (fun G24 => some (1, (D21.1, G24)))))
def RV (N : Nat) (F : gF) (k5 : gF → Option (Int32 × gF)) : Option (Int32 × gF) := bs (bp (lpX5_readsValues_18 N F) (fun z18_41 => if z18_41.1 = 0 then bs (dnX5_fails z18_41.2.2 (-4) z18_41.2.1) (fun r44 F45 => rzs r44 F45) else if z18_41.1 = 1 then bs (dnX5_fails z18_41.2.2 (-4) z18_41.2.1) (fun r48 F49 => rzs r48 F49) else some (1, z18_41.2.2))) (fun r38 F39 => if r38 = 0 then some (0, F39) else bs (dnX5_sign F39 59) (fun r42 F43 => if r42 = 0 then some (0, F43) else bp (dnX5_builds F43) k5))
def OV (T : Nat → Int32) (len w : Nat) (P : gF) (k5 : gF → Option (Int32 × gF)) (o4 : Option (Int32 × gD)) (o5 : Option (Int32 × gF)) : Prop :=
  (∃ (q' : Nat) (D' P' : gF) (G' : gR) (g' : Nat → Int32) (n' : Nat), o4 = some (1, (D', G')) ∧ o5 = k5 (st P' w g') ∧ PS T len q' D' P' ∧ PF P P' ∧ WF g' n' 0 ∧ RR G' g' n' 0) ∨
  (∃ (D' : gD) (P' : gF) (g' : Nat → Int32), o4 = some (0, D') ∧ o5 = some (0, st P' w g') ∧ ER D'.1 P' ∧ PF P P')
/-- behind the values: the sign, and all is built -/
theorem vend {T : Nat → Int32} {len q w n : Nat} {D : gD} {P : gF} {g : Nat → Int32} {k5 : gF → Option (Int32 × gF)} (h : PS T len q D.1 P) (hM : MS P w) (hV : V0 g n) (hR : R0 D.2 g n 0) (h1 : 1 ≤ n) (hd : tb T len q ≠ 45) (hd2 : dnX2_isDigit (tb T len q) = some 0) : OV T len w P k5 (bs (dnX2_hasSign D 59) (fun r20 D21 => if r20 = 0 then bs (dnX2_refuseSurplusValue D21) (fun r26 D27 => rzt r26 D27) else bp (dnX1_buildAll D21.2) (fun G24 => some (1, (D21.1, G24))))) (bs (dnX5_sign (st (wr P 0 9 (nI q)) w g) 59) (fun r42 F43 => if r42 = 0 then some (0, F43) else bp (dnX5_builds F43) k5)) := by
  rcases hasSignC h (show (59 : Int32) ≠ -1 by decide) with ⟨e, q', k1, k2, k3⟩ | ⟨e, k2⟩
  · have hM1 : MS (wr P 0 9 (nI (q + 1))) w := hM.w0 (by decide)
    obtain ⟨G', g', e4, e5, hW', hR', -, -⟩ := builds_b hM1 (hV.w0 h1) hR
    refine Or.inl ⟨q', _, wr P 0 9 (nI (q + 1)), G', g', n, ?_, ?_, k3, (PF.rf P).w (by omega) _, hW', hR'⟩
    · rw [k2, bs_s, if_neg (by decide), show ((wr D.1 0 6 (nI q'), D.2) : gD).2 = D.2 from rfl, e4, bp_s]
    · rw [signM1 h.h e, wr_wr, bs_s, if_neg (by decide), e5, bp_s]
  · refine Or.inr ⟨(wr (wr D.1 0 3 (-2)) 0 4 (nI q), D.2), _, g, ?_, ?_, er_f D.1 (wr P 0 9 (nI q)) (c := -2) (o := nI q) (by decide), (((PF.rf P).w (by omega) _).w (by omega) _).w (by omega) _⟩
    · unfold dnX2_refuseSurplusValue
      rw [k2, bs_s, if_pos rfl, nextC h, if_neg hd, bp_s, if_pos rfl, numC0 h hd2, bs_s, if_pos rfl, bs_s]
      rfl
    · rw [signM0 h.h e, wr_wr, bs_s, if_pos rfl]
theorem er_10 {D P : gF} (h : ER D P) : P 0 10 ≠ 0 := fun z => h.1 (h.2.1.trans z)
theorem valsL {T : Nat → Int32} {len w : Nat} {k5 : gF → Option (Int32 × gF)} : ∀ (N n q : Nat) (D : gD) (P : gF) (g : Nat → Int32), n ≤ 40 → 40 < N + n → PS T len q D.1 P → MS P w → V0 g n → R0 D.2 g n 0 → (1 ≤ n ∨ tb T len q = 45 ∨ dnX2_isDigit (tb T len q) = some 1) → OV T len w P k5 (CV N n D) (RV N (st P w g) k5) := by
  intro N
  induction N with
  | zero => intro n q D P g h1 h2; omega
  | succ N ih =>
    intro n q D P g h1 h2 h hM hV hR hst
    have hsz : ∀ P2 : gF, MS P2 w → dnX5_size (st P2 w g) = some (nI n) := fun P2 hM2 => size_ (hM2.s g) (by rw [row_st (by decide)]; exact hV.1.2)
    have hM1 : MS (wr P 0 9 (nI q)) w := hM.w0 (by decide)
    have h9 : (st (wr P 0 9 (nI q)) w g) 0 9 = nI q := by rw [st_0, wr_i]
    unfold CV RV lpX2_readValues_2 lpX5_readsValues_18
    by_cases h40 : n = 40
    · subst h40
      rw [if_pos (show (40 : Int32) ≤ nI 40 from Int32.le_refl _), bp_s, if_neg (show ¬ (1 : Nat) = 0 by decide)]
      rcases ivh_em (w := w) (g := g) h with ⟨e, hc⟩ | ⟨e, hc1, hc2⟩
      · rw [e, bs_s, if_neg (by decide), hsz _ hM1, bp_s, if_pos (show nI 40 = 40 from rfl), h.h.here, wr_wr, bs_s, h9]
        have hns : tb T len q ≠ 59 := by
          rcases hc with z | ⟨-, -, z⟩
          · rw [z]; decide
          · exact z
        rcases hasSignC h (show (59 : Int32) ≠ -1 by decide) with ⟨z, -⟩ | ⟨-, k2⟩
        · exact absurd z hns
        · rw [k2, bs_s, if_pos rfl]
          unfold dnX2_refuseSurplusValue
          rw [nextC h, h.2.1]
          rcases hc with z | ⟨z1, z2, -⟩
          · refine Or.inr ⟨(wr (wr D.1 0 3 (-4)) 0 4 (nI q), D.2), _, g, ?_, ?_, er_f D.1 (wr P 0 9 (nI q)) (c := -4) (o := nI q) (by decide), (((PF.rf P).w (by omega) _).w (by omega) _).w (by omega) _⟩
            · rw [if_pos z, bp_s, if_neg (by decide), failC, bs_s]
              rfl
            · rw [if_pos z, bp_s, if_pos rfl, failM (by rw [wr_o (by decide)]; exact h.2.2.2.2.2.1), bs_s]
              rfl
          · have erv : dnX5_readsValue (st (wr P 0 9 (nI q)) w g) = bs (dnX5_reads (st (wr P 0 9 (nI q)) w g) 0 999) (fun r7 F8 => if r7 = 0 then some (0, F8) else bw (wr F8 0 12 (F8 0 12)) (fun F10 => some (1, F10))) := by
              unfold dnX5_readsValue
              rw [h.h.here, wr_wr, bs_s, if_neg z1, h9, show nI q + 0 = nI q from Int32.add_zero _, st_w0, wr_wr, bw_s]
            rw [if_neg z1, bp_s, if_pos rfl, if_neg z1, erv]
            rcases number_b (w := w) (g := g) (lo := 0) (hi := 999) h.h (by decide) with ⟨q', D', P', a4, a5, aP, aF, aD, aq, m, m1, m2, m3, -⟩ | ⟨D', P', g', a4, a5, aE, aF⟩
            · have hpf : PF P P' := ((PF.rf P).w (k := 9) (by omega) _).tr aF
              have p10 : (wr P' 0 12 (nI m)) 0 10 = 0 := by rw [wr_o (by decide)]; exact aP.2.2.2.2.2.1
              refine Or.inr ⟨(wr (wr D' 0 3 (-4)) 0 4 (nI q), D.2), _, g, ?_, ?_, er_f D' (wr P' 0 12 (nI m)) (c := -4) (o := nI q) (by decide), ((hpf.w (by omega) _).w (by omega) _).w (by omega) _⟩
              · rw [a4, bs_s, if_neg (by decide), failC, bs_s, if_pos rfl, bs_s]
                rfl
              · rw [a5, bs_s, if_neg (by decide), st_0, m3, st_w0, bw_s, bs_s, if_neg (by decide), hsz _ ((hM.pf hpf).w0 (by decide)), bp_s, if_pos (show nI 40 = 40 from rfl), bp_s, if_neg (show ¬ (1 : Nat) = 0 by decide), if_pos (show (1 : Nat) = 1 from rfl), failM p10, bs_s]
                rfl
            · refine Or.inr ⟨D', P', g', ?_, ?_, aE, ((PF.rf P).w (k := 9) (by omega) _).tr aF⟩
              · rw [a4, bs_s, if_pos rfl, bs_s]
                rfl
              · rw [a5, bs_s, if_pos rfl, bs_s, if_pos rfl, bp_s, if_pos (show (0 : Nat) = 0 from rfl), failM2 (er_10 aE), bs_s]
                rfl
      · rw [e, bs_s, if_pos rfl, bp_s, if_neg (show ¬ (2 : Nat) = 0 by decide), if_neg (show ¬ (2 : Nat) = 1 by decide), bs_s, if_neg (show ¬ (1 : Int32) = 0 by decide)]
        exact vend h hM hV hR (by decide) hc1 hc2
    · have hn : n < 40 := by omega
      have hne : ¬ nI n = 40 := fun z => by have := (nI_eq (b := 40) (by omega) (by omega)).mp z; omega
      rw [if_neg (show ¬ (40 : Int32) ≤ nI n from nI_ge (b := 40) hn (by decide))]
      have e4 : ∀ o : Option (Nat × gD), (if tb T len q = 59 ∧ ¬ n = 0 then some (1, D) else bs (dnX2_readValue D) (fun r4 D5 => if r4 = 0 then some (0, D5) else bp (dnX1_addAtEnd D5.2 (D5.1 0 7)) (fun G8 => lpX2_readValues_2 N (nI n + 1) (D5.1, G8)))) = o → (if nI n = 0 then bs (dnX2_readValue D) (fun r4 D5 => if r4 = 0 then some (0, D5) else bp (dnX1_addAtEnd D5.2 (D5.1 0 7)) (fun G8 => lpX2_readValues_2 N (nI n + 1) (D5.1, G8))) else bp (dnX2_isNext D 59) (fun r10 => if r10 = 0 then bs (dnX2_readValue D) (fun r13 D14 => if r13 = 0 then some (0, D14) else bp (dnX1_addAtEnd D14.2 (D14.1 0 7)) (fun G17 => lpX2_readValues_2 N (nI n + 1) (D14.1, G17))) else some (1, D))) = o := by
        intro o ho
        by_cases z0 : n = 0
        · rw [if_neg (fun z => z.2 z0)] at ho
          rw [if_pos (by rw [z0]; rfl)]; exact ho
        · rw [if_neg (nI_ne0 (by omega) (by omega)), nextC h, bp_s]
          by_cases z1 : tb T len q = 59
          · rw [if_pos ⟨z1, z0⟩] at ho
            rw [if_pos z1, if_neg (by decide)]; exact ho
          · rw [if_neg (fun z => z1 z.1)] at ho
            rw [if_neg z1, if_pos rfl]; exact ho
      rw [e4 _ rfl]
      rcases ivh_em (w := w) (g := g) h with ⟨e, hc⟩ | ⟨e, hc1, hc2⟩
      · have hns : tb T len q ≠ 59 := by
          rcases hc with z | ⟨-, -, z⟩
          · rw [z]; decide
          · exact z
        rw [e, bs_s, if_neg (show ¬ (1 : Int32) = 0 by decide), hsz _ hM1, bp_s, if_neg hne, if_neg (show ¬ (tb T len q = 59 ∧ ¬ n = 0) from fun z => hns z.1), h9]
        rcases value_b (w := w) (g := g) h.h with ⟨q', D', P', a4, a5, aP, aF, aD, aq, v, v1, v2, v3, v4⟩ | ⟨D', P', g', a4, a5, aE, aF⟩
        · have hpf : PF P P' := ((PF.rf P).w (k := 9) (by omega) _).tr aF
          have hM2 := hM.pf hpf
          obtain ⟨G', g', b4, b5, hV', hR'⟩ := add_b hM2 hV hR hn v3 v4
          have e12 : (st P' w g) 0 12 = v := by rw [st_0]; exact v2
          rw [a4, a5, bs_s, bs_s, if_neg (show ¬ (1 : Int32) = 0 by decide), if_neg (show ¬ (1 : Int32) = 0 by decide), show ((D', D.2) : gD).1 0 7 = v from v1, show ((D', D.2) : gD).2 = D.2 from rfl, b4, bp_s, hsz _ hM2, bp_s, if_neg hne, e12, nI_1]
          have b5' := b5 (fun F20 => lpX5_readsValues_18 N F20)
          rw [hsz _ hM2, bp_s] at b5'
          rw [bp_s, b5']
          rcases ih (n + 1) q' (D', G') P' g' (by omega) (by omega) aP hM2 hV' hR' (Or.inl (by omega)) with ⟨q2, D2, P2, G2, g2, n2, r4, r5, rP, rF, rest⟩ | ⟨D2, P2, g2, r4, r5, rE, rF⟩
          · exact Or.inl ⟨q2, D2, P2, G2, g2, n2, r4, r5, rP, hpf.tr rF, rest⟩
          · exact Or.inr ⟨D2, P2, g2, r4, r5, rE, hpf.tr rF⟩
        · refine Or.inr ⟨D', P', g', ?_, ?_, aE, ((PF.rf P).w (k := 9) (by omega) _).tr aF⟩
          · rw [a4, bs_s, if_pos rfl, bp_s, if_pos (show (0 : Nat) = 0 from rfl)]
          · rw [a5, bs_s, if_pos rfl, bp_s, if_pos (show (0 : Nat) = 0 from rfl), failM2 (er_10 aE), bs_s]
            rfl
      · have hn1 : 1 ≤ n := by
          rcases hst with z | z | z
          · exact z
          · exact absurd z hc1
          · rw [hc2] at z; exact absurd (Option.some.inj z) (by decide)
        rw [e, bs_s, if_pos rfl, bp_s, if_neg (show ¬ (2 : Nat) = 0 by decide), if_neg (show ¬ (2 : Nat) = 1 by decide), bs_s, if_neg (show ¬ (1 : Int32) = 0 by decide)]
        by_cases z59 : tb T len q = 59
        · rw [if_pos ⟨z59, by omega⟩, bp_s, if_neg (show ¬ (1 : Nat) = 0 by decide)]
          exact vend h hM hV hR hn1 hc1 hc2
        · rw [if_neg (show ¬ (tb T len q = 59 ∧ ¬ n = 0) from fun z => z59 z.1), valC0 h hc1 hc2, bs_s, if_pos rfl, bp_s, if_pos (show (0 : Nat) = 0 from rfl)]
          refine Or.inr ⟨(wr (wr D.1 0 3 (-2)) 0 4 (nI q), D.2), _, g, rfl, ?_, er_f D.1 (wr P 0 9 (nI q)) (c := -2) (o := nI q) (by decide), (((PF.rf P).w (by omega) _).w (by omega) _).w (by omega) _⟩
          rw [signM0 h.h z59, wr_wr, bs_s, if_pos rfl]
