theorem getr {F : gF} {w k : Nat} (h : MS F w) (hk : k < 310) : dnX5_get F (nI k) = some (row F w k) := by
  have := get_ (g := row F w) h hk
  rw [st_row] at this
  exact this
theorem MS.t {F : gF} {w : Nat} (h : MS F w) (t : Int32) : MS (wr F 0 0 t) w := h.w0 (by decide)
theorem size_ {F : gF} {w n : Nat} (h : MS F w) (h0 : row F w 0 = nI n) : dnX5_size F = some (nI n) := by
  unfold dnX5_size
  rw [show (0 : Int32) = nI 0 from rfl, getr h (by decide), bp_s, h0]
theorem valueM {F : gF} {w p : Nat} (h : MS F w) (hp : p < 40) : dnX5_valueAt F (nI p) = some (row F w (12 + p)) := by
  unfold dnX5_valueAt
  rw [show (12 : Int32) = nI 12 from rfl, nI_add, getr h (by omega), bp_s]
theorem valueC {G : gR} {p : Nat} (hp : p < 40) : dnX1_valueAt G (nI p) = some (G.1 1 p) := by
  unfold dnX1_valueAt
  rw [if_neg (nI_pos (by omega)), show (40 : Int32) = nI 40 from rfl, if_neg (fun h => absurd ((nI_leI (by decide) (by omega)).mp h) (by omega)), ra_ok hp (by decide)]
theorem placeM {F : gF} {w n p : Nat} (h : MS F w) (h0 : row F w 0 = nI n) (hn : n ≤ 40) (hp : p < n) : dnX5_isPlace F (nI p) = some 1 := by
  unfold dnX5_isPlace
  rw [size_ h h0, bp_s]
  unfold dnX5_isIn
  rw [if_neg (nI_pos (by omega)), show nI n - 1 = nI (n - 1) from nI_sub (b := 1) (by omega), if_neg (fun q => absurd ((nI_ltI (by omega) (by omega)).mp q) (by omega)), bp_s]
  rfl
theorem placeM0 {F : gF} {w n : Nat} {x : Int32} (h : MS F w) (h0 : row F w 0 = nI n) (h1 : 1 ≤ n) (hn : n ≤ 40) (hx : x < 0 ∨ nI n ≤ x) : dnX5_isPlace F x = some 0 := by
  unfold dnX5_isPlace
  rw [size_ h h0, bp_s]
  unfold dnX5_isIn
  by_cases c : x < 0
  · rw [if_pos c, bp_s]; rfl
  · have hx2 : nI n ≤ x := hx.elim (fun q => absurd q c) id
    rw [if_neg c, show nI n - 1 = nI (n - 1) from nI_sub (b := 1) h1, if_pos (Int32.lt_of_lt_of_le (nI_lt (by omega) (by omega)) hx2), bp_s]; rfl
theorem placeC {G : gR} {n p : Nat} (h0 : G.1 0 3 = nI n) (hn : n ≤ 40) (hp : p < n) : dnX1_isPlace G (nI p) = some 1 := by
  unfold dnX1_isPlace
  rw [if_neg (nI_pos (by omega)), h0, if_neg (nI_ge hp (by omega))]
theorem placeC0 {G : gR} {n : Nat} {x : Int32} (h0 : G.1 0 3 = nI n) (hx : x < 0 ∨ nI n ≤ x) : dnX1_isPlace G x = some 0 := by
  unfold dnX1_isPlace
  by_cases c : x < 0
  · rw [if_pos c]
  · rw [if_neg c, h0, if_pos (hx.elim (fun q => absurd q c) id)]
theorem demC {V : gX} {n p : Nat} (h0 : V.2.1.1 0 3 = nI n) (hn : n ≤ 40) (hp : p < n) : dnX4_demandPlace V (nI p) = some (.inr ()) := by
  unfold dnX4_demandPlace
  rw [placeC h0 hn hp, bp_s, if_neg (by decide)]
theorem demC0 {V : gX} {n : Nat} {x : Int32} (h0 : V.2.1.1 0 3 = nI n) (hx : x < 0 ∨ nI n ≤ x) : dnX4_demandPlace V x = some (.inl "java/lang/IndexOutOfBoundsException") := by
  unfold dnX4_demandPlace
  rw [placeC0 h0 hx, bp_s, if_pos rfl]
/-- what the calls that read begin with -/
theorem JJ.r {V : gX} {F : gF} (h : JJ V F) : ∃ w n kc : Nat, MS (wr F 0 0 0) w ∧ WF (row (wr F 0 0 0) w) n kc ∧ RR V.2.1 (row (wr F 0 0 0) w) n kc := by
  obtain ⟨⟨w, h1, ⟨n, kc, h2, h3⟩, -⟩, -⟩ := h
  exact ⟨w, n, kc, h1.t 0, by rw [row_w0]; exact h2, by rw [row_w0]; exact h3⟩
theorem waitM {F : gF} {w n kc p : Nat} (h : MS F w) (hW : WF (row F w) n kc) (hp : p < 40) : dnX5_isWaiting F (nI p) = some (row F w (52 + p)) := by
  unfold dnX5_isWaiting
  rw [show (52 : Int32) = nI 52 from rfl, nI_add, getr h (by omega), bp_s]
  rcases hW.2.2.2.2.1.1 p hp with e | e
  · rw [e]; rfl
  · rw [e]; rfl
theorem waitC {G : gR} {g : Nat → Int32} {n kc p : Nat} (hW : WF g n kc) (hR : RR G g n kc) (hp : p < 40) : dnX1_isWaiting G (nI p) = some (g (52 + p)) := by
  unfold dnX1_isWaiting
  rw [isAmong_ _ (by omega), bp_s]
  have hb := hR.2.2.2.1 p (by omega)
  rcases hW.2.2.2.2.1.1 p hp with e | e
  · rw [if_neg (fun q => by have := (hb.mp q).2; rw [e] at this; cases this), e]; rfl
  · rw [if_pos (hb.mpr ⟨hp, e⟩), e]; rfl