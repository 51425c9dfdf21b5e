/-! load: where the two readers stand -/
theorem wr_self (F : gF) (a k : Nat) : wr F a k (F a k) = F := by
  funext i j
  unfold wr
  by_cases h : i = a
  · subst h
    rw [if_pos rfl]
    simp only [upd]
    by_cases e : j = k
    · rw [if_pos e, e]
    · rw [if_neg e]
  · rw [if_neg h]
def SK (T : Nat → Int32) (len p q : Nat) : Prop := p ≤ q ∧ q ≤ len ∧ (∀ j : Nat, p ≤ j → j < q → T j = 32) ∧ (q = len ∨ T q ≠ 32)
def TX (T : Nat → Int32) (len : Nat) (D P : gF) : Prop := len ≤ 500 ∧ D 0 5 = nI len ∧ P 0 8 = nI len ∧ ∀ j : Nat, j < len → D 1 j = T j ∧ P 4 j = T j ∧ 0 ≤ T j
/-- the byte at a place; -1 behind the text -/
def tb (T : Nat → Int32) (len q : Nat) : Int32 := if q < len then T q else -1
def PS (T : Nat → Int32) (len q : Nat) (D P : gF) : Prop := TX T len D P ∧ D 0 6 = nI q ∧ (∃ p : Nat, P 0 9 = nI p ∧ SK T len p q) ∧ (D 0 3 = 0 ∧ D 0 4 = -1 ∧ P 0 10 = 0 ∧ P 0 11 = -1)
def ER (D P : gF) : Prop := D 0 3 ≠ 0 ∧ D 0 3 = P 0 10 ∧ D 0 4 = P 0 11
def PF (P P' : gF) : Prop := (∀ a : Nat, a ≠ 0 → P' a = P a) ∧ (∀ k : Nat, (k < 9 ∨ 13 < k) → P' 0 k = P 0 k)
def DF (D D' : gF) : Prop := D' 1 = D 1 ∧ (∀ k : Nat, k ≠ 3 → k ≠ 4 → k ≠ 6 → k ≠ 7 → k ≠ 8 → D' 0 k = D 0 k)
theorem PF.rf (P : gF) : PF P P := ⟨fun _ _ => rfl, fun _ _ => rfl⟩
theorem PF.tr {P P1 P2 : gF} (h1 : PF P P1) (h2 : PF P1 P2) : PF P P2 := ⟨fun a ha => (h2.1 a ha).trans (h1.1 a ha), fun k hk => (h2.2 k hk).trans (h1.2 k hk)⟩
theorem PF.w {P P1 : gF} (h : PF P P1) {k : Nat} (hk : 9 ≤ k ∧ k ≤ 13) (v : Int32) : PF P (wr P1 0 k v) := ⟨fun a ha => by rw [wr_b ha]; exact h.1 a ha, fun j hj => by rw [wr_o (by omega)]; exact h.2 j hj⟩
theorem DF.rf (D : gF) : DF D D := ⟨rfl, fun _ _ _ _ _ _ => rfl⟩
theorem DF.tr {D D1 D2 : gF} (h1 : DF D D1) (h2 : DF D1 D2) : DF D D2 := ⟨h2.1.trans h1.1, fun k a b c d e => (h2.2 k a b c d e).trans (h1.2 k a b c d e)⟩
theorem DF.w {D D1 : gF} (h : DF D D1) {k : Nat} (hk : k = 3 ∨ k = 4 ∨ k = 6 ∨ k = 7 ∨ k = 8) (v : Int32) : DF D (wr D1 0 k v) := ⟨by rw [wr_b (by decide)]; exact h.1, fun j a b c d e => by rw [wr_o (by omega)]; exact h.2 j a b c d e⟩
theorem TX.cg {T : Nat → Int32} {len : Nat} {D P D' P' : gF} (h : TX T len D P) (d5 : D' 0 5 = D 0 5) (d1 : D' 1 = D 1) (p8 : P' 0 8 = P 0 8) (p4 : P' 4 = P 4) : TX T len D' P' := ⟨h.1, d5.trans h.2.1, p8.trans h.2.2.1, fun j hj => by rw [d1, p4]; exact h.2.2.2 j hj⟩
theorem MS.pf {P P' : gF} {w : Nat} (h : MS P w) (hf : PF P P') : MS P' w := ⟨by rw [hf.2 4 (by omega)]; exact h.1, h.2⟩
theorem byteC {T : Nat → Int32} {len q : Nat} {D : gD} {P : gF} (h : TX T len D.1 P) (hq : q < 2000) : dnX2_byteAt D (nI q) = some (tb T len q) := by
  have h5 := h.1
  unfold dnX2_byteAt tb
  rw [if_neg (nI_pos (by omega)), h.2.1]
  by_cases c : q < len
  · rw [if_neg (nI_ge c (by omega)), if_neg (show ¬ (500 : Int32) ≤ nI q from nI_ge (b := 500) (by omega) (by decide)), ra_ok (by omega) (by decide), if_pos c, (h.2.2.2 q c).1]
  · rw [if_pos (nI_le (by omega) (by omega)), if_neg c]
theorem here0 {T : Nat → Int32} {len q w : Nat} {D P : gF} {g : Nat → Int32} (h : TX T len D P) : ∀ (N p : Nat), SK T len p q → q < N + p → lpX5_here_0 N (st (wr P 0 9 (nI p)) w g) = some (0, st (wr P 0 9 (nI q)) w g) := by
  have h5 := h.1
  intro N
  induction N with
  | zero => intro p hs h2; have := hs.1; omega
  | succ N ih =>
    intro p hs h2
    obtain ⟨s1, s2, s3, s4⟩ := hs
    have e8 : (st (wr P 0 9 (nI p)) w g) 0 8 = nI len := by rw [st_0, wr_o (by decide)]; exact h.2.2.1
    have e9 : (st (wr P 0 9 (nI p)) w g) 0 9 = nI p := by rw [st_0, wr_i]
    have e4 : (st (wr P 0 9 (nI p)) w g) 4 = P 4 := by rw [st_b (by decide), wr_b (by decide)]
    unfold lpX5_here_0
    rw [e8, e9, e4]
    by_cases c : len ≤ p
    · rw [if_pos (nI_le c (by omega)), show p = q by omega]
    · rw [if_neg (nI_ge (by omega) (by omega)), ra_ok (by omega) (by decide), (h.2.2.2 p (by omega)).2.1]
      by_cases e : p = q
      · subst e
        rw [if_neg (s4.resolve_left (by omega))]
      · rw [if_pos (s3 p (Nat.le_refl _) (by omega)), nI_1, st_w0, wr_wr, bw_s]
        exact ih (p + 1) ⟨by omega, s2, fun j j1 j2 => s3 j (by omega) j2, s4⟩ (by omega)
theorem hereM {T : Nat → Int32} {len p q w : Nat} {D P : gF} {g : Nat → Int32} (h : TX T len D P) (hp : P 0 9 = nI p) (hs : SK T len p q) : dnX5_here (st P w g) = some (tb T len q, st (wr P 0 9 (nI q)) w g) := by
  have h5 := h.1
  have s2 := hs.2.1
  have e := here0 (w := w) (g := g) h FU p hs (by unfold FU; omega)
  have e0 : wr P 0 9 (nI p) = P := by rw [← hp]; exact wr_self P 0 9
  rw [e0] at e
  have e8 : (st (wr P 0 9 (nI q)) w g) 0 8 = nI len := by rw [st_0, wr_o (by decide)]; exact h.2.2.1
  have e9 : (st (wr P 0 9 (nI q)) w g) 0 9 = nI q := by rw [st_0, wr_i]
  have e4 : (st (wr P 0 9 (nI q)) w g) 4 = P 4 := by rw [st_b (by decide), wr_b (by decide)]
  unfold dnX5_here tb
  rw [e, bp_s]
  show (if (st (wr P 0 9 (nI q)) w g) 0 8 ≤ (st (wr P 0 9 (nI q)) w g) 0 9 then some (-1, st (wr P 0 9 (nI q)) w g) else ra 500 ((st (wr P 0 9 (nI q)) w g) 4) ((st (wr P 0 9 (nI q)) w g) 0 9) (fun v9 => some (v9, st (wr P 0 9 (nI q)) w g))) = _
  rw [e8, e9, e4]
  by_cases c : q < len
  · rw [if_neg (nI_ge c (by omega)), ra_ok (by omega) (by decide), (h.2.2.2 q c).2.1, if_pos c]
  · rw [if_pos (nI_le (by omega) (by omega)), if_neg c]
theorem PS.h {T : Nat → Int32} {len q : Nat} {D P : gF} (h : PS T len q D P) : PS T len q D (wr P 0 9 (nI q)) := by
  obtain ⟨h1, h2, ⟨p, hp, s1, s2, s3, s4⟩, e1, e2, e3, e4⟩ := h
  exact ⟨h1.cg rfl rfl (wr_o (by decide)) (wr_b (by decide)), h2, ⟨q, wr_i .., Nat.le_refl _, s2, fun j j1 j2 => by omega, s4⟩, e1, e2, by rw [wr_o (by decide)]; exact e3, by rw [wr_o (by decide)]; exact e4⟩
theorem PS.here {T : Nat → Int32} {len q w : Nat} {D P : gF} {g : Nat → Int32} (h : PS T len q D P) : dnX5_here (st P w g) = some (tb T len q, st (wr P 0 9 (nI q)) w g) := by
  obtain ⟨h1, h2, ⟨p, hp, hs⟩, -⟩ := h
  exact hereM h1 hp hs
theorem goTo5 {T : Nat → Int32} {len : Nat} {D P : gF} {G : gR} (h : TX T len D P) : ∀ (N p : Nat), p ≤ len → len < N + p → ∃ q : Nat, SK T len p q ∧ lpX2_goTo_5 N (wr D 0 6 (nI p), G) = some (0, (wr D 0 6 (nI q), G)) := by
  have h5 := h.1
  intro N
  induction N with
  | zero => intro p h1 h2; omega
  | succ N ih =>
    intro p h1 h2
    have hT : TX T len (wr D 0 6 (nI p)) P := h.cg (wr_o (by decide)) (wr_b (by decide)) rfl rfl
    unfold lpX2_goTo_5
    rw [show (wr D 0 6 (nI p), G).1 0 5 = nI len from hT.2.1, show (wr D 0 6 (nI p), G).1 0 6 = nI p from (show (wr D 0 6 (nI p)) 0 6 = nI p from wr_i ..)]
    by_cases c : len ≤ p
    · rw [if_pos (nI_le c (by omega))]
      exact ⟨p, ⟨Nat.le_refl _, h1, fun j j1 j2 => by omega, Or.inl (by omega)⟩, rfl⟩
    · rw [if_neg (nI_ge (by omega) (by omega)), byteC (D := (wr D 0 6 (nI p), G)) hT (by omega), bp_s, show tb T len p = T p from by unfold tb; rw [if_pos (by omega)]]
      by_cases e : T p = 32
      · obtain ⟨q, ⟨s1, s2, s3, s4⟩, e2⟩ := ih (p + 1) (by omega) (by omega)
        rw [if_pos e, nI_1, show wr (wr D 0 6 (nI p), G).1 0 6 (nI (p + 1)) = wr D 0 6 (nI (p + 1)) from wr_wr .., bw_s]
        refine ⟨q, ⟨by omega, s2, fun j j1 j2 => ?_, s4⟩, e2⟩
        by_cases ej : j = p
        · rw [ej]; exact e
        · exact s3 j (by omega) j2
      · rw [if_neg e]
        exact ⟨p, ⟨Nat.le_refl _, h1, fun j j1 j2 => by omega, Or.inr e⟩, rfl⟩
theorem goToC {T : Nat → Int32} {len p : Nat} {D : gD} {P : gF} (h : TX T len D.1 P) (hp : p ≤ len) : ∃ q : Nat, SK T len p q ∧ dnX2_goTo D (nI p) = some (wr D.1 0 6 (nI q), D.2) := by
  have h5 := h.1
  obtain ⟨q, hs, e⟩ := goTo5 (G := D.2) h FU p hp (by unfold FU; omega)
  refine ⟨q, hs, ?_⟩
  unfold dnX2_goTo
  rw [bw_s, e, bp_s]
theorem failC (D : gD) (c o : Int32) : dnX2_fail D c o = some (0, (wr (wr D.1 0 3 c) 0 4 o, D.2)) := rfl
theorem failM {P : gF} {w : Nat} {g : Nat → Int32} (h : P 0 10 = 0) (c o : Int32) : dnX5_fails (st P w g) c o = some (0, st (wr (wr P 0 10 c) 0 11 o) w g) := by
  unfold dnX5_fails
  rw [st_0, if_pos h, st_w0, bw_s, st_w0, bw_s]
theorem failM2 {P : gF} {w : Nat} {g : Nat → Int32} (h : P 0 10 ≠ 0) (c o : Int32) : dnX5_fails (st P w g) c o = some (0, st P w g) := by
  unfold dnX5_fails
  rw [st_0, if_neg h]
theorem er_f (D P : gF) {c o : Int32} (hc : c ≠ 0) : ER (wr (wr D 0 3 c) 0 4 o) (wr (wr P 0 10 c) 0 11 o) := by
  have e1 : (wr (wr D 0 3 c) 0 4 o) 0 3 = c := by rw [wr_o (by decide), wr_i]
  have e2 : (wr (wr P 0 10 c) 0 11 o) 0 10 = c := by rw [wr_o (by decide), wr_i]
  exact ⟨by rw [e1]; exact hc, by rw [e1, e2], by rw [wr_i, wr_i]⟩
/-- the token is a byte: it is passed, to behind the spaces -/
theorem PS.go {T : Nat → Int32} {len q w d : Nat} {D : gD} {P : gF} (h : PS T len q D.1 P) (hd : q + d ≤ len) : ∃ q' : Nat, q + d ≤ q' ∧ dnX2_goTo D (nI (q + d)) = some (wr D.1 0 6 (nI q'), D.2) ∧ PS T len q' (wr D.1 0 6 (nI q')) (wr P 0 9 (nI (q + d))) := by
  obtain ⟨h1, h2, -, e1, e2, e3, e4⟩ := h
  obtain ⟨q', hs, e⟩ := goToC h1 hd
  exact ⟨q', hs.1, e, h1.cg (wr_o (by decide)) (wr_b (by decide)) (wr_o (by decide)) (wr_b (by decide)), wr_i .., ⟨q + d, wr_i .., hs⟩, by rw [wr_o (by decide)]; exact e1, by rw [wr_o (by decide)]; exact e2, by rw [wr_o (by decide)]; exact e3, by rw [wr_o (by decide)]; exact e4⟩
/-- a sign that is wanted -/
theorem tb_in {T : Nat → Int32} {len q : Nat} {c : Int32} (hc : c ≠ -1) (h : tb T len q = c) : q < len := by
  unfold tb at h
  by_cases e : q < len
  · exact e
  · rw [if_neg e] at h; exact absurd h.symm hc
theorem hasSignC {T : Nat → Int32} {len q : Nat} {D : gD} {P : gF} {c : Int32} (h : PS T len q D.1 P) (hc : c ≠ -1) : (tb T len q = c ∧ ∃ q' : Nat, q + 1 ≤ q' ∧ dnX2_hasSign D c = some (1, (wr D.1 0 6 (nI q'), D.2)) ∧ PS T len q' (wr D.1 0 6 (nI q')) (wr P 0 9 (nI (q + 1)))) ∨ (tb T len q ≠ c ∧ dnX2_hasSign D c = some (0, D)) := by
  have h5 := h.1.1
  obtain ⟨p, hp, hs⟩ := h.2.2.1
  have s2 := hs.2.1
  unfold dnX2_hasSign dnX2_isNext
  rw [h.2.1, byteC h.1 (by omega), bp_s]
  by_cases e : tb T len q = c
  · obtain ⟨q', k1, k2, k3⟩ := h.go (w := 0) (show q + 1 ≤ len from tb_in hc e)
    refine Or.inl ⟨e, q', k1, ?_, k3⟩
    rw [if_pos e, bp_s, if_neg (by decide), nI_1, k2, bp_s]
  · refine Or.inr ⟨e, ?_⟩
    rw [if_neg e, bp_s, if_pos rfl]
/-- how a piece of a text is read: both readers go on, or both tell the same error -/
def OUT (T : Nat → Int32) (len q w : Nat) (D : gD) (P : gF) (g : Nat → Int32) (o4 : Option (Int32 × gD)) (o5 : Option (Int32 × gF)) (K : gF → gF → Prop) : Prop :=
  (∃ (q' : Nat) (D' : gF) (P' : gF), o4 = some (1, (D', D.2)) ∧ o5 = some (1, st P' w g) ∧ PS T len q' D' P' ∧ PF P P' ∧ DF D.1 D' ∧ q < q' ∧ K D' P') ∨
  (∃ (D' : gD) (P' : gF) (g' : Nat → Int32), o4 = some (0, D') ∧ o5 = some (0, st P' w g') ∧ ER D'.1 P' ∧ PF P P')
theorem sign_b {T : Nat → Int32} {len q w : Nat} {D : gD} {P : gF} {g : Nat → Int32} {c : Int32} (h : PS T len q D.1 P) (hc : c ≠ -1) : OUT T len q w D P g (dnX2_readSign D c) (dnX5_sign (st P w g) c) (fun _ _ => True) := by
  have h3 := h.2.2.2.2.2.1
  unfold dnX2_readSign dnX5_sign
  rw [h.here, bs_s]
  rcases hasSignC h hc with ⟨e, q', k1, k2, k3⟩ | ⟨e, k2⟩
  · refine Or.inl ⟨q', _, wr P 0 9 (nI (q + 1)), ?_, ?_, k3, (PF.rf P).w (by omega) _, (DF.rf _).w (by omega) _, by omega, trivial⟩
    · rw [k2, bs_s, if_neg (by decide)]
    · rw [if_pos e, st_0, wr_i, nI_1, st_w0, wr_wr, bw_s]
  · refine Or.inr ⟨(wr (wr D.1 0 3 (-2)) 0 4 (nI q), D.2), _, g, ?_, ?_, er_f D.1 (wr P 0 9 (nI q)) (c := -2) (o := nI q) (by decide), (((PF.rf P).w (by omega) _).w (by omega) _).w (by omega) _⟩
    · rw [k2, bs_s, if_pos rfl, failC, bs_s, if_pos rfl, h.2.1]
    · rw [if_neg e, failM (by rw [wr_o (by decide)]; exact h3), bs_s, st_0, wr_i]
      rfl
