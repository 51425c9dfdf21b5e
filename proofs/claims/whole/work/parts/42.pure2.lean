/-! calls that read -/
def WI (es : List String) (V : gX) (fo : Nat → Int64) (o4 : Option (oX Int32)) (o5 : Option (Int32 × gF)) (V' : gX) (F' : gF) (fo' : Nat → Int64) : Prop :=
  ∃ (o : oX Int32) (b : Int32), o4 = some o ∧ (∀ E, o = .inl E → E ∈ es) ∧ o5 = some (b, F') ∧ F' 0 0 = (lwI es V fo o).1 ∧ ((lwI es V fo o).1 = 0 → (lwI es V fo o).2.2 0 = b.toInt64) ∧ V' = (lwI es V fo o).2.1 ∧ fo' = (lwI es V fo o).2.2
theorem wi_ok2 {es : List String} {V : gX} {fo : Nat → Int64} {o4 : Option (oX Int32)} {o5 : Option (Int32 × gF)} {F : gF} {r : Int32} (hJ : JJ V F) (h4 : o4 = some (.inr r)) (h5 : o5 = some (r, wr F 0 0 0)) : ∃ V' F' fo', WI es V fo o4 o5 V' F' fo' ∧ JJ V' F' :=
  ⟨V, wr F 0 0 0, vp_updL fo 0 r.toInt64, ⟨.inr r, r, h4, (fun E h => by cases h), h5, wr_i .., (fun _ => by simp [lwI, vp_updL]), rfl, rfl⟩, hJ.t 0⟩
theorem wi_th {es : List String} {V : gX} {fo : Nat → Int64} {o4 : Option (oX Int32)} {o5 : Option (Int32 × gF)} {F : gF} {b t : Int32} {E : String} (hJ : JJ V F) (hE : E ∈ es) (ht : cdN es E 1 = t) (hne : t ≠ 0) (h4 : o4 = some (.inl E)) (h5 : o5 = some (b, wr F 0 0 t)) : ∃ V' F' fo', WI es V fo o4 o5 V' F' fo' ∧ JJ V' F' :=
  ⟨V, wr F 0 0 t, fo, ⟨.inl E, b, h4, (fun E' h => by cases h; exact hE), h5, by rw [wr_i]; exact ht.symm, (fun h => absurd (ht.symm.trans h) hne), rfl, rfl⟩, hJ.t t⟩
theorem getr {F : gF} {w k : Nat} (h : MS F w) (hk : k < 310) : dnX5_get F (nI k) = some (row F w k) := by
  have := get_ (g := row F w) h hk
  rw [st_row] at this
  exact this
theorem MS.t {F : gF} {w : Nat} (h : MS F w) (t : Int32) : MS (wr F 0 0 t) w := h.w0 (by decide)
theorem size_ {F : gF} {w n : Nat} (h : MS F w) (h0 : row F w 0 = nI n) : dnX5_size F = some (nI n) := by
  unfold dnX5_size
  rw [show (0 : Int32) = nI 0 from rfl, getr h (by decide), bp_s, h0]
theorem valueM {F : gF} {w p : Nat} (h : MS F w) (hp : p < 40) : dnX5_valueAt F (nI p) = some (row F w (12 + p)) := by
  unfold dnX5_valueAt
  rw [show (12 : Int32) = nI 12 from rfl, nI_add, getr h (by omega), bp_s]
theorem valueC {G : gR} {p : Nat} (hp : p < 40) : dnX1_valueAt G (nI p) = some (G.1 1 p) := by
  unfold dnX1_valueAt
  rw [if_neg (nI_pos (by omega)), show (40 : Int32) = nI 40 from rfl, if_neg (fun h => absurd ((nI_leI (by decide) (by omega)).mp h) (by omega)), ra_ok hp (by decide)]
theorem placeM {F : gF} {w n p : Nat} (h : MS F w) (h0 : row F w 0 = nI n) (hn : n ≤ 40) (hp : p < n) : dnX5_isPlace F (nI p) = some 1 := by
  unfold dnX5_isPlace
  rw [size_ h h0, bp_s]
  unfold dnX5_isIn
  rw [if_neg (nI_pos (by omega)), show nI n - 1 = nI (n - 1) from nI_sub (b := 1) (by omega), if_neg (fun q => absurd ((nI_ltI (by omega) (by omega)).mp q) (by omega)), bp_s]
  rfl
theorem placeM0 {F : gF} {w n : Nat} {x : Int32} (h : MS F w) (h0 : row F w 0 = nI n) (h1 : 1 ≤ n) (hn : n ≤ 40) (hx : x < 0 ∨ nI n ≤ x) : dnX5_isPlace F x = some 0 := by
  unfold dnX5_isPlace
  rw [size_ h h0, bp_s]
  unfold dnX5_isIn
  by_cases c : x < 0
  · rw [if_pos c, bp_s]; rfl
  · have hx2 : nI n ≤ x := hx.elim (fun q => absurd q c) id
    rw [if_neg c, show nI n - 1 = nI (n - 1) from nI_sub (b := 1) h1, if_pos (Int32.lt_of_lt_of_le (nI_lt (by omega) (by omega)) hx2), bp_s]; rfl
theorem placeC {G : gR} {n p : Nat} (h0 : G.1 0 3 = nI n) (hn : n ≤ 40) (hp : p < n) : dnX1_isPlace G (nI p) = some 1 := by
  unfold dnX1_isPlace
  rw [if_neg (nI_pos (by omega)), h0, if_neg (nI_ge hp (by omega))]
theorem placeC0 {G : gR} {n : Nat} {x : Int32} (h0 : G.1 0 3 = nI n) (hx : x < 0 ∨ nI n ≤ x) : dnX1_isPlace G x = some 0 := by
  unfold dnX1_isPlace
  by_cases c : x < 0
  · rw [if_pos c]
  · rw [if_neg c, h0, if_pos (hx.elim (fun q => absurd q c) id)]
theorem demC {V : gX} {n p : Nat} (h0 : V.2.1.1 0 3 = nI n) (hn : n ≤ 40) (hp : p < n) : dnX4_demandPlace V (nI p) = some (.inr ()) := by
  unfold dnX4_demandPlace
  rw [placeC h0 hn hp, bp_s, if_neg (by decide)]
theorem demC0 {V : gX} {n : Nat} {x : Int32} (h0 : V.2.1.1 0 3 = nI n) (hx : x < 0 ∨ nI n ≤ x) : dnX4_demandPlace V x = some (.inl "java/lang/IndexOutOfBoundsException") := by
  unfold dnX4_demandPlace
  rw [placeC0 h0 hx, bp_s, if_pos rfl]
/-- what the calls that read begin with -/
theorem JJ.r {V : gX} {F : gF} (h : JJ V F) : ∃ w n kc : Nat, MS (wr F 0 0 0) w ∧ WF (row (wr F 0 0 0) w) n kc ∧ RR V.2.1 (row (wr F 0 0 0) w) n kc := by
  obtain ⟨⟨w, h1, ⟨n, kc, h2, h3⟩, -⟩, -⟩ := h
  exact ⟨w, n, kc, h1.t 0, by rw [row_w0]; exact h2, by rw [row_w0]; exact h3⟩
theorem s_errorOffset (x1 x2 x3 x4 x5 : Int32) (V : gX) (F : gF) (fo : Nat → Int64) (h : JJ V F) : ∃ V' F' fo', LR 2 x1 x2 x3 x4 x5 V F fo V' F' fo' ∧ JJ V' F' :=
  ⟨V, wr F 0 0 0, fo, ⟨V.1 0 3, rfl, by unfold dnX5_errorOffset; rw [bw_s, h.2.1, wr_o (by decide)], rfl, rfl⟩, h.t 0⟩
theorem s_value (x1 x2 x3 x4 x5 : Int32) (V : gX) (F : gF) (fo : Nat → Int64) (h : JJ V F) : ∃ V' F' fo', LR 4 x1 x2 x3 x4 x5 V F fo V' F' fo' ∧ JJ V' F' := by
  obtain ⟨w, n, kc, hM, hW, hR⟩ := h.r
  obtain ⟨⟨n1, n40, hn⟩, -⟩ := id hW
  have hc : V.2.1.1 0 3 = nI n := hR.1.1.trans hn
  show ∃ V' F' fo', WI _ V fo (dnX4_value V x1) (dnX5_value F x1) V' F' fo' ∧ JJ V' F'
  rcases pl_em n40 x1 with ⟨p, hp, rfl⟩ | hx
  · refine wi_ok2 (r := row (wr F 0 0 0) w (12 + p)) h ?_ ?_
    · unfold dnX4_value
      rw [demC hc n40 hp, bx_r, valueC (by omega), bp_s, hR.2.1 p hp]
    · unfold dnX5_value
      rw [bw_s, placeM hM hn n40 hp, bp_s, right1, bs_s, if_neg (by decide), valueM hM (by omega), bp_s]
  · refine wi_th (b := 0) (t := 1) (E := "java/lang/IndexOutOfBoundsException") h (by decide) (by decide) (by decide) ?_ ?_
    · unfold dnX4_value
      rw [demC0 hc hx, bx_l]
    · unfold dnX5_value
      rw [bw_s, placeM0 hM hn n1 n40 hx, bp_s, right0 F (by decide), bs_s, if_pos rfl]
theorem waitM {F : gF} {w n kc p : Nat} (h : MS F w) (hW : WF (row F w) n kc) (hp : p < 40) : dnX5_isWaiting F (nI p) = some (row F w (52 + p)) := by
  unfold dnX5_isWaiting
  rw [show (52 : Int32) = nI 52 from rfl, nI_add, getr h (by omega), bp_s]
  rcases hW.2.2.2.2.1.1 p hp with e | e
  · rw [e]; rfl
  · rw [e]; rfl
theorem waitC {G : gR} {g : Nat → Int32} {n kc p : Nat} (hW : WF g n kc) (hR : RR G g n kc) (hp : p < 40) : dnX1_isWaiting G (nI p) = some (g (52 + p)) := by
  unfold dnX1_isWaiting
  rw [isAmong_ _ (by omega), bp_s]
  have hb := hR.2.2.2.1 p (by omega)
  rcases hW.2.2.2.2.1.1 p hp with e | e
  · rw [if_neg (fun q => by have := (hb.mp q).2; rw [e] at this; cases this), e]; rfl
  · rw [if_pos (hb.mpr ⟨hp, e⟩), e]; rfl
theorem s_waits (x1 x2 x3 x4 x5 : Int32) (V : gX) (F : gF) (fo : Nat → Int64) (h : JJ V F) : ∃ V' F' fo', LR 6 x1 x2 x3 x4 x5 V F fo V' F' fo' ∧ JJ V' F' := by
  obtain ⟨w, n, kc, hM, hW, hR⟩ := h.r
  obtain ⟨⟨n1, n40, hn⟩, -⟩ := id hW
  have hc : V.2.1.1 0 3 = nI n := hR.1.1.trans hn
  rcases pl_em n40 x1 with ⟨p, hp, rfl⟩ | hx
  · have h5 : dnX5_waits F (nI p) = some (row (wr F 0 0 0) w (52 + p), wr F 0 0 0) := by
      unfold dnX5_waits
      rw [bw_s, placeM hM hn n40 hp, bp_s, right1, bs_s, if_neg (by decide), waitM hM hW (by omega), bp_s]
      rcases hW.2.2.2.2.1.1 p (by omega) with e | e
      · rw [e]; rfl
      · rw [e]; rfl
    have h4 : dnX4_waits V (nI p) = some (.inr (row (wr F 0 0 0) w (52 + p))) := by
      unfold dnX4_waits
      rw [demC hc n40 hp, bx_r, waitC hW hR (by omega), bp_s]
      rcases hW.2.2.2.2.1.1 p (by omega) with e | e
      · rw [e]; rfl
      · rw [e]; rfl
    exact ⟨V, wr F 0 0 0, vp_updL fo 0 (if row (wr F 0 0 0) w (52 + p) = 0 then 0 else 1), ⟨_, _, h4, (fun E h => by cases h), h5, wr_i .., (fun _ => by simp [lwW, vp_updL]), rfl, rfl⟩, h.t 0⟩
  · have h4 : dnX4_waits V x1 = some (.inl "java/lang/IndexOutOfBoundsException") := by
      unfold dnX4_waits
      rw [demC0 hc hx, bx_l]
    have h5 : dnX5_waits F x1 = some (0, wr F 0 0 1) := by
      unfold dnX5_waits
      rw [bw_s, placeM0 hM hn n1 n40 hx, bp_s, right0 F (by decide), bs_s, if_pos rfl]
    exact ⟨V, wr F 0 0 1, fo, ⟨_, _, h4, (fun E h => by cases h; decide), h5, by rw [wr_i]; rfl, (fun q => absurd (show cdN ["java/lang/IndexOutOfBoundsException"] "java/lang/IndexOutOfBoundsException" 1 = 0 from q) (by decide)), rfl, rfl⟩, h.t 1⟩
