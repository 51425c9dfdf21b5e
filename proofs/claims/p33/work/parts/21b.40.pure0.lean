/-! numbers -/
theorem nI_mul (a b : Nat) : nI a * nI b = nI (a * b) := (Int32.ofNat_mul a b).symm
theorem nI_sub {a b : Nat} (h : b ≤ a) : nI a - nI b = nI (a - b) := by
  have e := nI_add (a - b) b
  rw [Nat.sub_add_cancel h] at e
  rw [← e, Int32.add_sub_cancel]
theorem sh1 {l : Nat} (h : l < 6) : (1 : Int32) <<< (nI l &&& 31) = nI (2 ^ l) := by
  match l, h with
  | 0, _ => decide
  | 1, _ => decide
  | 2, _ => decide
  | 3, _ => decide
  | 4, _ => decide
  | 5, _ => decide
theorem sh2 {l : Nat} (h : l < 6) : (2 : Int32) <<< (nI l &&& 31) = nI (2 ^ (l + 1)) := by
  match l, h with
  | 0, _ => decide
  | 1, _ => decide
  | 2, _ => decide
  | 3, _ => decide
  | 4, _ => decide
  | 5, _ => decide
theorem ra_ok {β : Type} {n k : Nat} {f : Nat → Int32} {q : Int32 → Option β} (h : k < n) (hn : n < 2 ^ 31) : ra n f (nI k) q = q (f k) := by
  unfold ra
  rw [if_neg (nI_in h hn), nI_clamp (Nat.lt_trans h hn)]
theorem wi_ok {β : Type} {n k : Nat} {q : Nat → Option β} (h : k < n) (hn : n < 2 ^ 31) : wi n (nI k) q = q k := by
  unfold wi
  rw [if_neg (nI_in h hn), nI_clamp (Nat.lt_trans h hn)]
theorem bp_s {α β : Type} (a : α) (f : α → Option β) : bp (some a) f = f a := rfl
theorem bs_s {α β γ : Type} (a : α) (c : γ) (f : α → γ → Option β) : bs (some (a, c)) f = f a c := rfl
theorem bx_r {α β : Type} (a : α) (f : α → Option (oX β)) : bx (some (.inr a)) f = f a := rfl
theorem bx_l {α β : Type} (E : String) (f : α → Option (oX β)) : bx (some (.inl E)) f = some (.inl E) := rfl
theorem bw_s {α β : Type} (a : α) (f : α → Option β) : bw a f = f a := rfl
/-! the reference's row that is now: g, 310 ints -/
def st (F : gF) (w : Nat) (g : Nat → Int32) : gF := fun a j => if a = 1 ∧ 310 * w ≤ j ∧ j < 310 * w + 310 then g (j - 310 * w) else F a j
def row (F : gF) (w : Nat) : Nat → Int32 := fun k => F 1 (310 * w + k)
def MS (F : gF) (w : Nat) : Prop := F 0 4 = nI w ∧ w < 9
theorem st_b {F : gF} {w : Nat} {g : Nat → Int32} {a : Nat} (h : a ≠ 1) : (st F w g) a = F a := by
  funext j; simp [st, h]
theorem st_0 (F : gF) (w : Nat) (g : Nat → Int32) (j : Nat) : (st F w g) 0 j = F 0 j := by simp [st]
theorem st_1 {F : gF} {w : Nat} {g : Nat → Int32} {k : Nat} (h : k < 310) : (st F w g) 1 (310 * w + k) = g k := by
  have h1 : 310 * w + k < 310 * w + 310 := by omega
  simp [st, h1]
theorem st_o {F : gF} {w w' : Nat} {g : Nat → Int32} {k : Nat} (h : k < 310) (hw : w' ≠ w) : (st F w g) 1 (310 * w' + k) = F 1 (310 * w' + k) := by
  have h1 : ¬ (310 * w ≤ 310 * w' + k ∧ 310 * w' + k < 310 * w + 310) := by omega
  simp only [st, true_and]
  rw [if_neg h1]
theorem st_w {F : gF} {w : Nat} {g : Nat → Int32} {k : Nat} {v : Int32} (h : k < 310) : wr (st F w g) 1 (310 * w + k) v = st F w (upd g k v) := by
  funext a j
  unfold wr st
  by_cases ha : a = 1
  · subst ha
    by_cases hj : j = 310 * w + k
    · subst hj
      have h1 : 310 * w + k < 310 * w + 310 := by omega
      simp [upd, h1]
    · simp only [if_true, true_and, upd]
      rw [if_neg hj]
      by_cases hr : 310 * w ≤ j ∧ j < 310 * w + 310
      · rw [if_pos hr, if_pos hr, if_neg (by omega)]
      · rw [if_neg hr, if_neg hr]
  · simp [ha]
theorem st_w0 {F : gF} {w : Nat} {g : Nat → Int32} {k : Nat} {v : Int32} : wr (st F w g) 0 k v = st (wr F 0 k v) w g := by
  funext a j
  unfold wr st
  by_cases ha : a = 0
  · subst ha; simp
  · simp [ha]
theorem st_row (F : gF) (w : Nat) : st F w (row F w) = F := by
  funext a j
  unfold st row
  by_cases h : a = 1 ∧ 310 * w ≤ j ∧ j < 310 * w + 310
  · rw [if_pos h, h.1, Nat.add_sub_cancel' h.2.1]
  · rw [if_neg h]
theorem MS.w0 {F : gF} {w k : Nat} {v : Int32} (h : MS F w) (hk : k ≠ 4) : MS (wr F 0 k v) w := ⟨by simp only [wr, if_true, upd]; rw [if_neg (by omega)]; exact h.1, h.2⟩
theorem ix_ {F : gF} {w k : Nat} {g : Nat → Int32} (h : MS F w) : (310 * ((st F w g) 0 4)) + nI k = nI (310 * w + k) := by
  rw [st_0, h.1, show (310 : Int32) = nI 310 from rfl, nI_mul, nI_add]
theorem get_ {F : gF} {w k : Nat} {g : Nat → Int32} (h : MS F w) (hk : k < 310) : dnX5_get (st F w g) (nI k) = some (g k) := by
  unfold dnX5_get
  have := h.2
  rw [ix_ h, ra_ok (by omega) (by decide), st_1 hk]
theorem put_ {F : gF} {w k : Nat} {g : Nat → Int32} {v : Int32} (h : MS F w) (hk : k < 310) : dnX5_put0 (st F w g) (nI k) v = some (st F w (upd g k v)) := by
  unfold dnX5_put0
  have := h.2
  rw [ix_ h, wi_ok (by omega) (by decide), bw_s, st_w hk]
theorem adds_ {F : gF} {w k : Nat} {g : Nat → Int32} {v : Int32} (h : MS F w) (hk : k < 310) : dnX5_adds (st F w g) (nI k) v = some (st F w (upd g k (g k + v))) := by
  unfold dnX5_adds
  rw [get_ h hk, bp_s, put_ h hk, bp_s]
