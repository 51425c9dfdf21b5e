/-! the class against a reference row: what each call does, by whole's pure parts -/
def F0r : gF := fun _ _ => 0
theorem F0r_M : MS F0r 0 := ⟨rfl, by decide⟩
def KK (V : gX) (g : Nat → Int32) (n kc : Nat) : Prop := WF g n kc ∧ RR V.2.1 g n kc ∧ ∃ u x : Nat, u ≤ 8 ∧ x < 8 ∧ V.2.2.2.1 0 2 = nI u ∧ V.2.2.2.1 0 1 = nI x
/-- the class behind a change that is kept in its history -/
def nxV (V : gX) (x : Nat) (G' : gR) : gX := (V.1, G', V.2.2.1, (hSave V.2.2.2.1, va_up V.2.2.2.2 x V.2.1))
theorem KK.nx {V : gX} {u x : Nat} (q1 : u ≤ 8) (q2 : x < 8) (q4 : V.2.2.2.1 0 2 = nI u) (q5 : V.2.2.2.1 0 1 = nI x) {G' : gR} {g' : Nat → Int32} {n' kc' : Nat} (hW : WF g' n' kc') (hR : RR G' g' n' kc') : KK (nxV V x G') g' n' kc' := by
  refine ⟨hW, hR, min 8 (u + 1), (x + 1) % 8, by omega, by omega, ?_, ?_⟩
  · show hSave V.2.2.2.1 0 2 = _
    unfold hSave
    simp only [wr, if_true, upd]
    rw [q4, nI_1]
    by_cases h8 : 8 < u + 1
    · rw [if_pos (show (8 : Int32) < nI (u + 1) from nI_lt (a := 8) h8 (by omega)), show min 8 (u + 1) = 8 by omega]; rfl
    · rw [if_neg (show ¬ (8 : Int32) < nI (u + 1) from nI_nlt (b := u + 1) (a := 8) (by omega) (by omega)), show min 8 (u + 1) = u + 1 by omega]
  · show hSave V.2.2.2.1 0 1 = _
    unfold hSave
    simp only [wr, if_true, upd]
    rw [if_neg (by decide), q5, mod8 x q2]
theorem kk_set {V : gX} {g : Nat → Int32} {n kc p : Nat} {v : Int32} (h : KK V g n kc) (hp : p < n) (hv : -999 ≤ v ∧ v ≤ 999) : ∃ (V' : gX) (g' : Nat → Int32), dnX4_set V (nI p) v = some (.inr (g (12 + p), V')) ∧ dnX5_sets (st F0r 0 g) (nI p) v = some (g (12 + p), st F0r 0 g') ∧ KK V' g' n kc := by
  obtain ⟨hW, hR, u, x, q1, q2, q4, q5⟩ := h
  obtain ⟨⟨n1, n40, hn⟩, -⟩ := id hW
  have hc : V.2.1.1 0 3 = nI n := hR.1.1.trans hn
  obtain ⟨G', g', e4, e5, hW', hR'⟩ := change_b F0r_M hW hR hp hv.1 hv.2
  refine ⟨nxV V x G', g', ?_, e5, KK.nx q1 q2 q4 q5 hW' hR'⟩
  unfold dnX4_set
  rw [demC hc n40 hp, bx_r, demV hv, bx_r, q5, wi_ok q2 (by decide), bw_s, e4, bs_s]
  rfl
theorem kk_ask {V : gX} {g : Nat → Int32} {n kc a b : Nat} (h : KK V g n kc) (hab : a ≤ b) (hb : b < n) : ∃ (V' : gX) (g' : Nat → Int32), dnX4_ask V (nI a) (nI b) = some (.inr (nI (lm g a (b - a)), V')) ∧ dnX5_asks (st F0r 0 g) (nI a) (nI b) = some (nI (lm g a (b - a)), st F0r 0 g') ∧ KK V' g' n kc := by
  obtain ⟨hW, hR, u, x, q1, q2, q4, q5⟩ := h
  obtain ⟨⟨n1, n40, hn⟩, -⟩ := id hW
  have hc : V.2.1.1 0 3 = nI n := hR.1.1.trans hn
  obtain ⟨G', g', e4, e5, hW', hR', -⟩ := question_b F0r_M hW hR hab hb
  refine ⟨nxV V x G', g', ?_, e5, KK.nx q1 q2 q4 q5 hW' hR'⟩
  unfold dnX4_ask
  rw [strC hc n40 hab hb, bx_r, q5, wi_ok q2 (by decide), bw_s, e4, bs_s]
  rfl
theorem kk_put {V : gX} {g : Nat → Int32} {n kc p : Nat} {v : Int32} (h : KK V g n kc) (h40 : n < 40) (hp : p < n) (hv : -999 ≤ v ∧ v ≤ 999) : ∃ (V' : gX) (g' : Nat → Int32), dnX4_put V (nI p) v = some (.inr (nI (n + 1), V')) ∧ dnX5_putsIn (st F0r 0 g) (nI p) v = some (nI (n + 1), st F0r 0 g') ∧ KK V' g' (n + 1) kc := by
  obtain ⟨hW, hR, u, x, q1, q2, q4, q5⟩ := h
  obtain ⟨⟨n1, n40, hn⟩, -⟩ := id hW
  have hc : V.2.1.1 0 3 = nI n := hR.1.1.trans hn
  have hne : ¬ nI p = nI n := fun z => by have := (nI_eq (by omega) (by omega)).mp z; omega
  obtain ⟨G', g', e4, e5, hW', hR'⟩ := insert_b F0r_M hW hR h40 (show p ≤ n by omega) hv.1 hv.2
  refine ⟨nxV V x G', g', ?_, e5, KK.nx q1 q2 q4 q5 hW' hR'⟩
  unfold dnX4_put
  rw [hc, if_neg hne, demC hc n40 hp, bx_r, demV hv, bx_r, if_pos (show nI n < (40 : Int32) from nI_lt (b := 40) h40 (by decide)), q5, wi_ok q2 (by decide), bw_s, e4, bp_s, hR'.1.1, hW'.1.2.2]
  rfl
theorem kk_take {V : gX} {g : Nat → Int32} {n kc p : Nat} (h : KK V g n kc) (h2 : 2 ≤ n) (hp : p < n) : ∃ (V' : gX) (g' : Nat → Int32) (kc' : Nat), dnX4_take V (nI p) = some (.inr (g (12 + p), V')) ∧ dnX5_takesOut (st F0r 0 g) (nI p) = some (g (12 + p), st F0r 0 g') ∧ KK V' g' (n - 1) kc' := by
  obtain ⟨hW, hR, u, x, q1, q2, q4, q5⟩ := h
  obtain ⟨⟨n1, n40, hn⟩, -⟩ := id hW
  have hc : V.2.1.1 0 3 = nI n := hR.1.1.trans hn
  obtain ⟨G', g', kc', e4, e5, hW', hR'⟩ := remove_b F0r_M hW hR h2 hp
  refine ⟨nxV V x G', g', kc', ?_, e5, KK.nx q1 q2 q4 q5 hW' hR'⟩
  unfold dnX4_take
  rw [demC hc n40 hp, bx_r, hc, if_neg (fun z => by have := (nI_eq (b := 1) (by omega) (by omega)).mp z; omega), q5, wi_ok q2 (by decide), bw_s, e4, bs_s]
  rfl
theorem kk_rule {V : gX} {g : Nat → Int32} {n kc m : Nat} (h : KK V g n kc) (hm : m ≤ 2) : ∃ (V' : gX) (g' : Nat → Int32), dnX4_rule V 1 (nI m) = some (.inr (g 1, V')) ∧ dnX5_builds (st F0r 0 (upd g 1 (nI m))) = some (st F0r 0 g') ∧ KK V' g' n kc := by
  obtain ⟨hW, hR, u, x, q1, q2, q4, q5⟩ := h
  have hv : nI m = 0 ∨ nI m = 1 ∨ nI m = 2 := by
    match m, hm with
    | 0, _ => exact Or.inl rfl
    | 1, _ => exact Or.inr (Or.inl rfl)
    | 2, _ => exact Or.inr (Or.inr rfl)
  obtain ⟨G', g', e4, e5, hW', hR'⟩ := rule_b F0r_M hW hR hv
  refine ⟨nxV V x G', g', ?_, e5, KK.nx q1 q2 q4 q5 hW' hR'⟩
  unfold dnX4_rule
  rw [if_pos rfl, if_neg (nI_pos (by omega)), if_neg (show ¬ (2 : Int32) < nI m from nI_nlt (b := m) (a := 2) (by omega) (by omega)), if_neg (by decide), q5, wi_ok q2 (by decide), bw_s, e4, bs_s]
  rfl
theorem kk_val {V : gX} {g : Nat → Int32} {n kc p : Nat} (h : KK V g n kc) (hp : p < n) : dnX4_value V (nI p) = some (.inr (g (12 + p))) := by
  obtain ⟨hW, hR, -⟩ := h
  obtain ⟨⟨n1, n40, hn⟩, -⟩ := id hW
  have hc : V.2.1.1 0 3 = nI n := hR.1.1.trans hn
  unfold dnX4_value
  rw [demC hc n40 hp, bx_r, valueC (by omega), bp_s, hR.2.1 p hp]
theorem kk_wait {V : gX} {g : Nat → Int32} {n kc p : Nat} (h : KK V g n kc) (hp : p < n) : dnX4_waits V (nI p) = some (.inr (g (52 + p))) := by
  obtain ⟨hW, hR, -⟩ := h
  obtain ⟨⟨n1, n40, hn⟩, -⟩ := id hW
  have hc : V.2.1.1 0 3 = nI n := hR.1.1.trans hn
  unfold dnX4_waits
  rw [demC hc n40 hp, bx_r, waitC hW hR (by omega), bp_s]
  rcases hW.2.2.2.2.1.1 p (by omega) with e | e
  · rw [e]; rfl
  · rw [e]; rfl
theorem kk_gap {V : gX} {g : Nat → Int32} {n kc : Nat} (h : KK V g n kc) : dnX4_gap V = some 0 := gapC h.1 h.2.1
