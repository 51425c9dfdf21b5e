theorem pmq4 {α : Type} (c0 c1 : α) : ([c0, c1] : List α).Perm (([c1, c0]) ++ ([])) := pmA _ _ (fun x => by simp only [List.count_append, List.count_cons, List.count_nil]; omega)
/-! a list's state: its object, and its array if it has one of its own -/
def WLs (Y : yT) (b : Nat) (mo : Int32) (ae cap : Nat) (xs : List Nat) : va_W := (b, .inr (11, [.int mo, .ref ae, .int (nI xs.length)])) :: (if cap = 0 then [] else [(ae, .inl (Y.2.1 2, cap, .inr (.inr (.inr (.inr (fun k => xs[k]?))))))])
def okL (Y : yT) (ae cap : Nat) (xs : List Nat) : Prop := (cap = 0 → ae = Y.2.2.2.1 100 ∧ xs = []) ∧ xs.length ≤ cap ∧ cap ≤ 600
theorem WLs_0 (Y : yT) (b : Nat) (mo : Int32) (ae : Nat) (xs : List Nat) : WLs Y b mo ae 0 xs = [(b, .inr (11, [.int mo, .ref ae, .int (nI xs.length)]))] := by rw [WLs, if_pos rfl]
theorem WLs_s (Y : yT) (b : Nat) (mo : Int32) {ae cap : Nat} (h : 0 < cap) (xs : List Nat) : WLs Y b mo ae cap xs = [(b, .inr (11, [.int mo, .ref ae, .int (nI xs.length)])), (ae, .inl (Y.2.1 2, cap, .inr (.inr (.inr (.inr (fun k => xs[k]?))))))] := by rw [WLs, if_neg (by omega)]
theorem MR.to {l : Launch} {y : MethodName} {words : List Cond} {rm : Room} {Dd : va_G} {Y : yT} {av : List Value} {ws : va_W} {post post' : Option Value → va_W → Prop} {mc ms : Nat} (h : MR l y words rm Dd Y av ws post mc ms) (hk : ∀ rv w, post rv w → ∃ w', post' rv w' ∧ (∀ H, va_P Dd vwCl w H → va_P Dd vwCl w' H) ∧ w.map (fun q => q.1) = w'.map (fun q => q.1)) : MR l y words rm Dd Y av ws post' mc ms := by
  intro sz p e a b c s m args below h1 h2 hP hK
  obtain ⟨n, o, q1, q2, q3, ⟨⟨⟨rv, w, hp, g1, g2, g3, g4⟩, g5⟩, hL⟩⟩ := h sz p e a b c s m args below h1 h2 hP hK
  obtain ⟨w', hp', hw, hm⟩ := hk rv w hp
  refine ⟨n, o, q1, q2, q3, ⟨⟨⟨rv, w', hp', g1, hw _ g2, g3, ?_⟩, g5⟩, hL⟩⟩
  obtain ⟨d1, d2⟩ := bk_D.mp g4
  refine bk_D.mpr ⟨hm ▸ d1, fun q hq => ?_⟩
  have : q.1 ∈ w.map (fun q => q.1) := by rw [hm]; exact List.mem_map.mpr ⟨q, hq, rfl⟩
  obtain ⟨q', hq', e⟩ := List.mem_map.mp this
  rw [← e]
  exact d2 q' hq'
theorem MR.mono {l : Launch} {y : MethodName} {words : List Cond} {rm : Room} {Dd : va_G} {Y : yT} {av : List Value} {ws : va_W} {post post' : Option Value → va_W → Prop} {mc ms : Nat} (h : MR l y words rm Dd Y av ws post mc ms) (hk : ∀ rv w, post rv w → post' rv w) : MR l y words rm Dd Y av ws post' mc ms := h.to (fun rv w hp => ⟨w, hk rv w hp, fun _ h => h, rfl⟩)
theorem sw_P {Dd : va_G} {pre post : va_W} {a : Nat} {c : ClassId} {x x' : vp_A} {H : Heap} (he : vp_cell c x = vp_cell c x') (h : va_P Dd vwCl (pre ++ ([(a, .inl (c, x))] ++ post)) H) : va_P Dd vwCl (pre ++ ([(a, .inl (c, x'))] ++ post)) H := by
  obtain ⟨h1, h2, h3⟩ := bk_P.mp h
  refine bk_P.mpr ⟨h1, fun k q hk => ?_, h3⟩
  match k, hk with
  | 0, hk => cases hk; have := h2 0 _ rfl; exact this.trans (congrArg some he)
  | k + 1, hk => simp at hk
theorem rf_cg {c : ClassId} {n : Nat} {f g : Nat → Option Nat} (h : ∀ j, j < n → f j = g j) : vp_cell c (n, .inr (.inr (.inr (.inr f)))) = vp_cell c (n, .inr (.inr (.inr (.inr g)))) := by
  show arrV c n (fun j => va_rf (f j)) = arrV c n (fun j => va_rf (g j))
  unfold arrV
  congr 1
  apply Array.ext
  · simp
  · intro j h1 h2
    have hj : j < n := by simpa using h1
    simp [h j hj]
theorem xs_add (xs : List Nat) (v : Nat) (j : Nat) : va_up (fun k => xs[k]?) xs.length (some v) j = (xs ++ [v])[j]? := by
  unfold va_up
  by_cases h : j = xs.length
  · subst h; simp
  · rw [if_neg h]
    rcases Nat.lt_or_ge j xs.length with q | q
    · rw [List.getElem?_append_left q]
    · show xs[j]? = _
      rw [List.getElem?_append_right q, List.getElem?_eq_none q]
      rw [List.getElem?_eq_none (by simp; omega)]
abbrev rmJx4a65c_add_9ea2d : Room := { frames := 6, cells := 1, slots := 1000, locals := 136 }
set_option maxRecDepth 100000 in
set_option maxHeartbeats 4000000 in
theorem kJx4a65c_add_9ea2d (l : Launch) (Dd : va_G) (Y : yT) (b ae cap n v : Nat) (mo : Int32) (f : Nat → Option Nat) (ex : va_W) (hn : n < cap) (hc : cap ≤ 1000) (hv : inx ex v) : MR l yJx4a65c_add_9ea2d wsJx4a65c_add_9ea2d rmJx4a65c_add_9ea2d Dd Y [.ref b, .ref v] ([(b, .inr (11, [.int mo, .ref ae, .int (nI n)])), (ae, .inl (Y.2.1 2, cap, .inr (.inr (.inr (.inr f)))))] ++ ex) (fun rv w => rv = some (.int 1) ∧ w = [(b, .inr (11, [.int (mo + 1), .ref ae, .int (nI (n + 1))])), (ae, .inl (Y.2.1 2, cap, .inr (.inr (.inr (.inr (va_up f n (some v)))))))] ++ ex) 1 1000 := by
  refine MRk (cc := cJx4a65c_add_9ea2d) (maxL := 2) (ret := (some .boolean)) (by decide) rfl (Nat.le_of_ble_eq_true rfl) (fun {p₀ e₀ s m args below meth c₀ A} ls Q X hin hW hl hI hV hA => ?_)
  have hx := X.x
  have hb := X.b
  have hl : lv_has ls 2 [(0, .ref b), (1, .ref v)] := hl
  have hinJx4a65c : ∀ w ∈ wsJx4a65c0, w ∈ wsJx4a65c_add_9ea2d := fun w h => List.mem_cons_of_mem _ (List.mem_append_right _ h)
  refine lv_aload_n hx hb dJx4a65c_add_9ea2d_0 rfl (lv_at hl 0 rfl) ?_
  refine lv_dup hx hb dJx4a65c_add_9ea2d_1 rfl ?_
  refine gS_ X hinJx4a65c hW 0 rfl rfl 0 (by decide) 1 2 rfl rfl rfl dJx4a65c_add_9ea2d_2 ?_
  refine lv_iconst (v := 1) hx hb dJx4a65c_add_9ea2d_5 (by decide) ?_
  refine lv_iadd hx hb dJx4a65c_add_9ea2d_6 ?_
  refine pS_ (ty := .int) X hinJx4a65c tyJx4a65c tyJx4a65c_ok nmJx4a65c hW 0 rfl rfl 0 (by decide) 1 2 rfl rfl rfl (by decide +kernel) rfl rfl (Nat.le_of_ble_eq_true rfl) dJx4a65c_add_9ea2d_7 (ws' := [(b, .inr (11, [.int (mo + 1), .ref ae, .int (nI n)])), (ae, .inl (Y.2.1 2, cap, .inr (.inr (.inr (.inr f)))))] ++ ex) rfl (fun H locs hW => ?_)
  refine lv_aload_n hx hb dJx4a65c_add_9ea2d_10 rfl (lv_at hl 0 rfl) ?_
  refine lv_aload_n hx hb dJx4a65c_add_9ea2d_11 rfl (lv_at hl 1 rfl) ?_
  refine lv_aload_n hx hb dJx4a65c_add_9ea2d_12 rfl (lv_at hl 0 rfl) ?_
  refine g_ X hinJx4a65c hW 0 rfl rfl 1 (by decide) 3 rfl rfl rfl dJx4a65c_add_9ea2d_13 ?_
  refine lv_aload_n hx hb dJx4a65c_add_9ea2d_16 rfl (lv_at hl 0 rfl) ?_
  refine g_ X hinJx4a65c hW 0 rfl rfl 2 (by decide) 4 rfl rfl rfl dJx4a65c_add_9ea2d_17 ?_
  refine rV_ (As := [.ref v, .ref ae, .int (nI n)]) (rest := []) (wc := [(b, .inr (11, [.int (mo + 1), .ref ae, .int (nI n)])), (ae, .inl (Y.2.1 2, cap, .inr (.inr (.inr (.inr f)))))] ++ ex) (w9 := []) X (kJx4a65c_add_72be8 l Dd Y b ae cap n v (mo + 1) f ex hn hc hv) (cwV 3 X.1.2.2.2.2 gJx4a65c_add_9ea2d_Jx4a65c_add_72be8 rfl rfl rfl (by decide +kernel) ⟨(Nat.le_of_ble_eq_true rfl), (Nat.le_of_ble_eq_true rfl)⟩) hW (pmq3 _ _ _) 0 11 rfl rfl rfl rfl hl.1 rfl (Nat.le_of_ble_eq_true rfl) dJx4a65c_add_9ea2d_20 ⟨(Nat.le_of_ble_eq_true rfl), (Nat.le_of_ble_eq_true rfl)⟩ (fun rv wq H locs hp hW => ?_)
  obtain ⟨rfl, rfl⟩ := hp
  have hW : Wd Dd A s.heap ([(b, .inr (11, [.int (mo + 1), .ref ae, .int (nI (n + 1))])), (ae, .inl (Y.2.1 2, cap, .inr (.inr (.inr (.inr (va_up f n (some v)))))))] ++ ex) H locs := by rw [List.append_nil] at hW; exact hW
  refine W.eq (g2 := F0 m 23 ls []) rfl ?_
  refine lv_iconst (v := 1) hx hb dJx4a65c_add_9ea2d_23 (by decide) ?_
  exact hI _ _ _ _ _ _ _ _ _ ⟨rfl, rfl⟩ rfl rfl (Nat.le_of_ble_eq_true rfl) (Nat.le_of_ble_eq_true rfl) hW dJx4a65c_add_9ea2d_24
set_option maxRecDepth 100000 in
set_option maxHeartbeats 4000000 in
theorem kAdd1E (l : Launch) (Dd : va_G) (Y : yT) (b v : Nat) (mo : Int32) (ex : va_W) (hv : inx ex v) : MR l yJx4a65c_add_9ea2d wsJx4a65c_add_9ea2d rmJx4a65c_add_9ea2d Dd Y [.ref b, .ref v] ([(b, .inr (11, [.int mo, .ref (Y.2.2.2.1 100), .int 0]))] ++ ex) (fun rv w => ∃ q : Nat, rv = some (.int 1) ∧ w = [(b, .inr (11, [.int (mo + 1), .ref q, .int (nI 1)])), (q, .inl (Y.2.1 2, 10, .inr (.inr (.inr (.inr (va_up (fun _ => none) 0 (some v)))))))] ++ ex) 1 1000 := by
  refine MRk (cc := cJx4a65c_add_9ea2d) (maxL := 2) (ret := (some .boolean)) (by decide) rfl (Nat.le_of_ble_eq_true rfl) (fun {p₀ e₀ s m args below meth c₀ A} ls Q X hin hW hl hI hV hA => ?_)
  have hx := X.x
  have hb := X.b
  have hl : lv_has ls 2 [(0, .ref b), (1, .ref v)] := hl
  have hinJx4a65c : ∀ w ∈ wsJx4a65c0, w ∈ wsJx4a65c_add_9ea2d := fun w h => List.mem_cons_of_mem _ (List.mem_append_right _ h)
  refine lv_aload_n hx hb dJx4a65c_add_9ea2d_0 rfl (lv_at hl 0 rfl) ?_
  refine lv_dup hx hb dJx4a65c_add_9ea2d_1 rfl ?_
  refine gS_ X hinJx4a65c hW 0 rfl rfl 0 (by decide) 1 2 rfl rfl rfl dJx4a65c_add_9ea2d_2 ?_
  refine lv_iconst (v := 1) hx hb dJx4a65c_add_9ea2d_5 (by decide) ?_
  refine lv_iadd hx hb dJx4a65c_add_9ea2d_6 ?_
  refine pS_ (ty := .int) X hinJx4a65c tyJx4a65c tyJx4a65c_ok nmJx4a65c hW 0 rfl rfl 0 (by decide) 1 2 rfl rfl rfl (by decide +kernel) rfl rfl (Nat.le_of_ble_eq_true rfl) dJx4a65c_add_9ea2d_7 (ws' := [(b, .inr (11, [.int (mo + 1), .ref (Y.2.2.2.1 100), .int 0]))] ++ ex) rfl (fun H locs hW => ?_)
  refine lv_aload_n hx hb dJx4a65c_add_9ea2d_10 rfl (lv_at hl 0 rfl) ?_
  refine lv_aload_n hx hb dJx4a65c_add_9ea2d_11 rfl (lv_at hl 1 rfl) ?_
  refine lv_aload_n hx hb dJx4a65c_add_9ea2d_12 rfl (lv_at hl 0 rfl) ?_
  refine g_ X hinJx4a65c hW 0 rfl rfl 1 (by decide) 3 rfl rfl rfl dJx4a65c_add_9ea2d_13 ?_
  refine lv_aload_n hx hb dJx4a65c_add_9ea2d_16 rfl (lv_at hl 0 rfl) ?_
  refine g_ X hinJx4a65c hW 0 rfl rfl 2 (by decide) 4 rfl rfl rfl dJx4a65c_add_9ea2d_17 ?_
  refine rV_ (As := [.ref v, .ref (Y.2.2.2.1 100), .int 0]) (rest := []) (wc := [(b, .inr (11, [.int (mo + 1), .ref (Y.2.2.2.1 100), .int 0]))] ++ ex) (w9 := []) X (kAddE l Dd Y b v (mo + 1) ex hv) (cwV 3 X.1.2.2.2.2 gJx4a65c_add_9ea2d_Jx4a65c_add_72be8 rfl rfl rfl (by decide +kernel) ⟨(Nat.le_of_ble_eq_true rfl), (Nat.le_of_ble_eq_true rfl)⟩) hW (pmq0 _ _) 0 11 rfl rfl rfl rfl hl.1 rfl (Nat.le_of_ble_eq_true rfl) dJx4a65c_add_9ea2d_20 ⟨(Nat.le_of_ble_eq_true rfl), (Nat.le_of_ble_eq_true rfl)⟩ (fun rv wq H locs hp hW => ?_)
  obtain ⟨q, rfl, rfl⟩ := hp
  have hW : Wd Dd A s.heap ([(b, .inr (11, [.int (mo + 1), .ref q, .int (nI 1)])), (q, .inl (Y.2.1 2, 10, .inr (.inr (.inr (.inr (va_up (fun _ => none) 0 (some v)))))))] ++ ex) H locs := by rw [List.append_nil] at hW; exact hW
  refine W.eq (g2 := F0 m 23 ls []) rfl ?_
  refine lv_iconst (v := 1) hx hb dJx4a65c_add_9ea2d_23 (by decide) ?_
  exact hI _ _ _ _ _ _ _ _ _ ⟨q, rfl, rfl⟩ rfl rfl (Nat.le_of_ble_eq_true rfl) (Nat.le_of_ble_eq_true rfl) hW dJx4a65c_add_9ea2d_24
set_option maxRecDepth 100000 in
set_option maxHeartbeats 4000000 in
theorem kAdd1F (l : Launch) (Dd : va_G) (Y : yT) (b ae cap v : Nat) (mo : Int32) (f : Nat → Option Nat) (ex : va_W) (hv : inx ex v) (h0 : 0 < cap) (hc : cap ≤ 600) (hel : ∀ i : Nat, i < cap → ∀ y : Nat, f i = some y → inx ex y) : MR l yJx4a65c_add_9ea2d wsJx4a65c_add_9ea2d rmJx4a65c_add_9ea2d Dd Y [.ref b, .ref v] ([(b, .inr (11, [.int mo, .ref ae, .int (nI cap)])), (ae, .inl (Y.2.1 2, cap, .inr (.inr (.inr (.inr f)))))] ++ ex) (fun rv w => ∃ q : Nat, rv = some (.int 1) ∧ w = [(b, .inr (11, [.int (mo + 1), .ref q, .int (nI (cap + 1))])), (q, .inl (Y.2.1 2, (cap + max 1 (cap / 2)), .inr (.inr (.inr (.inr (va_up (va_cpy f (fun _ => none) 0 0 cap) cap (some v)))))))] ++ ex) 1 1000 := by
  refine MRk (cc := cJx4a65c_add_9ea2d) (maxL := 2) (ret := (some .boolean)) (by decide) rfl (Nat.le_of_ble_eq_true rfl) (fun {p₀ e₀ s m args below meth c₀ A} ls Q X hin hW hl hI hV hA => ?_)
  have hx := X.x
  have hb := X.b
  have hl : lv_has ls 2 [(0, .ref b), (1, .ref v)] := hl
  have hinJx4a65c : ∀ w ∈ wsJx4a65c0, w ∈ wsJx4a65c_add_9ea2d := fun w h => List.mem_cons_of_mem _ (List.mem_append_right _ h)
  refine lv_aload_n hx hb dJx4a65c_add_9ea2d_0 rfl (lv_at hl 0 rfl) ?_
  refine lv_dup hx hb dJx4a65c_add_9ea2d_1 rfl ?_
  refine gS_ X hinJx4a65c hW 0 rfl rfl 0 (by decide) 1 2 rfl rfl rfl dJx4a65c_add_9ea2d_2 ?_
  refine lv_iconst (v := 1) hx hb dJx4a65c_add_9ea2d_5 (by decide) ?_
  refine lv_iadd hx hb dJx4a65c_add_9ea2d_6 ?_
  refine pS_ (ty := .int) X hinJx4a65c tyJx4a65c tyJx4a65c_ok nmJx4a65c hW 0 rfl rfl 0 (by decide) 1 2 rfl rfl rfl (by decide +kernel) rfl rfl (Nat.le_of_ble_eq_true rfl) dJx4a65c_add_9ea2d_7 (ws' := [(b, .inr (11, [.int (mo + 1), .ref ae, .int (nI cap)])), (ae, .inl (Y.2.1 2, cap, .inr (.inr (.inr (.inr f)))))] ++ ex) rfl (fun H locs hW => ?_)
  refine lv_aload_n hx hb dJx4a65c_add_9ea2d_10 rfl (lv_at hl 0 rfl) ?_
  refine lv_aload_n hx hb dJx4a65c_add_9ea2d_11 rfl (lv_at hl 1 rfl) ?_
  refine lv_aload_n hx hb dJx4a65c_add_9ea2d_12 rfl (lv_at hl 0 rfl) ?_
  refine g_ X hinJx4a65c hW 0 rfl rfl 1 (by decide) 3 rfl rfl rfl dJx4a65c_add_9ea2d_13 ?_
  refine lv_aload_n hx hb dJx4a65c_add_9ea2d_16 rfl (lv_at hl 0 rfl) ?_
  refine g_ X hinJx4a65c hW 0 rfl rfl 2 (by decide) 4 rfl rfl rfl dJx4a65c_add_9ea2d_17 ?_
  refine rV_ (As := [.ref v, .ref ae, .int (nI cap)]) (rest := []) (wc := [(b, .inr (11, [.int (mo + 1), .ref ae, .int (nI cap)])), (ae, .inl (Y.2.1 2, cap, .inr (.inr (.inr (.inr f)))))] ++ ex) (w9 := []) X (kAddF l Dd Y b ae cap v (mo + 1) f ex hv h0 hc hel) (cwV 3 X.1.2.2.2.2 gJx4a65c_add_9ea2d_Jx4a65c_add_72be8 rfl rfl rfl (by decide +kernel) ⟨(Nat.le_of_ble_eq_true rfl), (Nat.le_of_ble_eq_true rfl)⟩) hW (pmq3 _ _ _) 0 11 rfl rfl rfl rfl hl.1 rfl (Nat.le_of_ble_eq_true rfl) dJx4a65c_add_9ea2d_20 ⟨(Nat.le_of_ble_eq_true rfl), (Nat.le_of_ble_eq_true rfl)⟩ (fun rv wq H locs hp hW => ?_)
  obtain ⟨q, rfl, rfl⟩ := hp
  have hW : Wd Dd A s.heap ([(b, .inr (11, [.int (mo + 1), .ref q, .int (nI (cap + 1))])), (q, .inl (Y.2.1 2, (cap + max 1 (cap / 2)), .inr (.inr (.inr (.inr (va_up (va_cpy f (fun _ => none) 0 0 cap) cap (some v)))))))] ++ ex) H locs := by rw [List.append_nil] at hW; exact hW
  refine W.eq (g2 := F0 m 23 ls []) rfl ?_
  refine lv_iconst (v := 1) hx hb dJx4a65c_add_9ea2d_23 (by decide) ?_
  exact hI _ _ _ _ _ _ _ _ _ ⟨q, rfl, rfl⟩ rfl rfl (Nat.le_of_ble_eq_true rfl) (Nat.le_of_ble_eq_true rfl) hW dJx4a65c_add_9ea2d_24
theorem kAdd (l : Launch) (Dd : va_G) (Y : yT) (b ae cap v : Nat) (mo : Int32) (xs : List Nat) (ex : va_W) (h : okL Y ae cap xs) (hx : ∀ y ∈ xs, inx ex y) (hv : inx ex v) (h3 : xs.length ≤ 300) : MR l yJx4a65c_add_9ea2d wsJx4a65c_add_9ea2d rmJx4a65c_add_9ea2d Dd Y [.ref b, .ref v] (WLs Y b mo ae cap xs ++ ex) (fun rv w => rv = some (.int 1) ∧ ∃ (mo' : Int32) (ae' cap' : Nat), 0 < cap' ∧ okL Y ae' cap' (xs ++ [v]) ∧ w = WLs Y b mo' ae' cap' (xs ++ [v]) ++ ex) 1 1000 := by
  obtain ⟨g1, g2, g3⟩ := h
  rcases Nat.eq_zero_or_pos cap with h0 | h0
  · subst h0
    obtain ⟨rfl, rfl⟩ := g1 rfl
    rw [WLs_0]
    refine (kAdd1E l Dd Y b v mo ex hv).to (fun rv w hp => ?_)
    obtain ⟨q, rfl, rfl⟩ := hp
    refine ⟨WLs Y b (mo + 1) q 10 [v] ++ ex, ⟨rfl, mo + 1, q, 10, by decide, ⟨fun h => absurd h (by decide), by simp, by decide⟩, rfl⟩, fun H hP => ?_, by rw [WLs_s _ _ _ (by decide)]; rfl⟩
    rw [WLs_s _ _ _ (by decide)]
    exact sw_P (pre := [(b, .inr (11, [.int (mo + 1), .ref q, .int (nI 1)]))]) (post := ex) (rf_cg (fun j hj => by
      have := xs_add [] v j
      simpa using this)) hP
  · rcases Nat.lt_or_ge xs.length cap with q | q
    · rw [WLs_s _ _ _ h0]
      refine (kJx4a65c_add_9ea2d l Dd Y b ae cap xs.length v mo (fun k => xs[k]?) ex q (by omega) hv).to (fun rv w hp => ?_)
      obtain ⟨rfl, rfl⟩ := hp
      refine ⟨WLs Y b (mo + 1) ae cap (xs ++ [v]) ++ ex, ⟨rfl, mo + 1, ae, cap, h0, ⟨fun h => absurd h (by omega), by simp; omega, g3⟩, rfl⟩, fun H hP => ?_, by rw [WLs_s _ _ _ h0]; rfl⟩
      rw [WLs_s _ _ _ h0, List.length_append, List.length_singleton]
      exact sw_P (pre := [(b, .inr (11, [.int (mo + 1), .ref ae, .int (nI (xs.length + 1))]))]) (post := ex) (rf_cg (fun j hj => xs_add xs v j)) hP
    · obtain rfl : cap = xs.length := by omega
      rw [WLs_s _ _ _ h0]
      refine (kAdd1F l Dd Y b ae xs.length v mo (fun k => xs[k]?) ex hv h0 g3 (fun i hi y hy => hx y (List.mem_of_getElem? hy))).to (fun rv w hp => ?_)
      obtain ⟨q, rfl, rfl⟩ := hp
      have hc : 0 < xs.length + max 1 (xs.length / 2) := by omega
      refine ⟨WLs Y b (mo + 1) q (xs.length + max 1 (xs.length / 2)) (xs ++ [v]) ++ ex, ⟨rfl, mo + 1, q, _, hc, ⟨fun h => absurd h (by omega), by simp; omega, by omega⟩, rfl⟩, fun H hP => ?_, by rw [WLs_s _ _ _ hc]; rfl⟩
      rw [WLs_s _ _ _ hc, List.length_append, List.length_singleton]
      refine sw_P (pre := [(b, .inr (11, [.int (mo + 1), .ref q, .int (nI (xs.length + 1))]))]) (post := ex) (rf_cg (fun j hj => ?_)) hP
      rw [← xs_add xs v j]
      unfold va_up
      by_cases e : j = xs.length
      · rw [if_pos e, if_pos e]
      · rw [if_neg e, if_neg e]
        rcases Nat.lt_or_ge j xs.length with k | k
        · rw [pk_cpy_in (Nat.zero_le _) (by omega), Nat.zero_add, Nat.sub_zero]
        · rw [pk_cpy_out (Or.inr (by omega))]
          show none = xs[j]?
          rw [List.getElem?_eq_none k]
theorem kGet (l : Launch) (Dd : va_G) (Y : yT) (b ae cap i : Nat) (mo : Int32) (xs : List Nat) (h : okL Y ae cap xs) (hi : i < xs.length) : MR l yJx4a65c_get_915e3 wsJx4a65c_get_915e3 rmJx4a65c_get_915e3 Dd Y [.ref b, .int (nI i)] (WLs Y b mo ae cap xs) (fun rv w => rv = some (va_rf xs[i]?) ∧ w = WLs Y b mo ae cap xs) 0 0 := by
  obtain ⟨g1, g2, g3⟩ := h
  rw [WLs_s _ _ _ (by omega)]
  exact (kJx4a65c_get_915e3 l Dd Y b ae cap xs.length i mo (fun k => xs[k]?) hi g2 (by omega)).mono (fun rv w h => h)
theorem MR.fr {l : Launch} {y : MethodName} {words : List Cond} {rm : Room} {Dd : va_G} {Y : yT} {av : List Value} {ws ws' : va_W} {post : Option Value → va_W → Prop} {mc ms : Nat} (e : ws = ws') (h : MR l y words rm Dd Y av ws post mc ms) : MR l y words rm Dd Y av ws' post mc ms := e ▸ h
abbrev rmJx35411_checkForComodification_da8c8 : Room := { frames := 0, cells := 0, slots := 0, locals := 0 }
set_option maxRecDepth 100000 in
set_option maxHeartbeats 4000000 in
theorem kJx35411_checkForComodification_da8c8 (l : Launch) (Dd : va_G) (Y : yT) (it b : Nat) (cu la mo n : Int32) (v : Value) : MR l yJx35411_checkForComodification_da8c8 wsJx35411_checkForComodification_da8c8 rmJx35411_checkForComodification_da8c8 Dd Y [.ref it] ([(it, .inr (10, [.int cu, .int la, .int mo, .ref b])), (b, .inr (11, [.int mo, v, .int n]))]) (fun rv w => rv = none ∧ w = [(it, .inr (10, [.int cu, .int la, .int mo, .ref b])), (b, .inr (11, [.int mo, v, .int n]))]) 0 0 := by
  refine MRk (cc := cJx35411_checkForComodification_da8c8) (maxL := 1) (ret := none) (by decide) rfl (Nat.le_of_ble_eq_true rfl) (fun {p₀ e₀ s m args below meth c₀ A} ls Q X hin hW hl hI hV hA => ?_)
  have hx := X.x
  have hb := X.b
  have hl : lv_has ls 1 [(0, .ref it)] := hl
  have hinJx35411 : ∀ w ∈ wsJx354110, w ∈ wsJx35411_checkForComodification_da8c8 := fun w h => List.mem_cons_of_mem _ (List.mem_append_left _ (List.mem_append_right _ h))
  have hinJx4a65c : ∀ w ∈ wsJx4a65c0, w ∈ wsJx35411_checkForComodification_da8c8 := fun w h => List.mem_cons_of_mem _ (List.mem_append_right _ h)
  refine lv_aload_n hx hb dJx35411_checkForComodification_da8c8_0 rfl (lv_at hl 0 rfl) ?_
  refine g_ X hinJx35411 hW 0 rfl rfl 3 (by decide) 1 rfl rfl rfl dJx35411_checkForComodification_da8c8_1 ?_
  refine gS_ X hinJx4a65c hW 1 rfl rfl 0 (by decide) 2 3 rfl rfl rfl dJx35411_checkForComodification_da8c8_4 ?_
  refine lv_aload_n hx hb dJx35411_checkForComodification_da8c8_7 rfl (lv_at hl 0 rfl) ?_
  refine g_ X hinJx35411 hW 0 rfl rfl 2 (by decide) 4 rfl rfl rfl dJx35411_checkForComodification_da8c8_8 ?_
  refine lv_icmp_eq (tgt := 22) hx hb dJx35411_checkForComodification_da8c8_11 (by decide) (fun _ => ?_) (fun h => absurd rfl h)
  exact hV _ _ _ _ _ _ _ ⟨rfl, rfl⟩ rfl (Nat.le_of_ble_eq_true rfl) (Nat.le_of_ble_eq_true rfl) hW dJx35411_checkForComodification_da8c8_22
abbrev rmJx35411_hasNext_aae02 : Room := { frames := 0, cells := 0, slots := 0, locals := 0 }
set_option maxRecDepth 100000 in
set_option maxHeartbeats 4000000 in
theorem kJx35411_hasNext_aae02 (l : Launch) (Dd : va_G) (Y : yT) (it b ku n : Nat) (la mo : Int32) (v : Value) (hc : ku ≤ n) (hn : n < 2 ^ 31) : MR l yJx35411_hasNext_aae02 wsJx35411_hasNext_aae02 rmJx35411_hasNext_aae02 Dd Y [.ref it] ([(it, .inr (10, [.int (nI ku), .int la, .int mo, .ref b])), (b, .inr (11, [.int mo, v, .int (nI n)]))]) (fun rv w => rv = some (.int (if ku < n then 1 else 0)) ∧ w = [(it, .inr (10, [.int (nI ku), .int la, .int mo, .ref b])), (b, .inr (11, [.int mo, v, .int (nI n)]))]) 0 0 := by
  refine MRk (cc := cJx35411_hasNext_aae02) (maxL := 1) (ret := (some .boolean)) (by decide) rfl (Nat.le_of_ble_eq_true rfl) (fun {p₀ e₀ s m args below meth c₀ A} ls Q X hin hW hl hI hV hA => ?_)
  have hx := X.x
  have hb := X.b
  have hl : lv_has ls 1 [(0, .ref it)] := hl
  have hinJx35411 : ∀ w ∈ wsJx354110, w ∈ wsJx35411_hasNext_aae02 := fun w h => List.mem_cons_of_mem _ (List.mem_append_left _ (List.mem_append_right _ h))
  have hinJx4a65c : ∀ w ∈ wsJx4a65c0, w ∈ wsJx35411_hasNext_aae02 := fun w h => List.mem_cons_of_mem _ (List.mem_append_right _ h)
  refine lv_aload_n hx hb dJx35411_hasNext_aae02_0 rfl (lv_at hl 0 rfl) ?_
  refine g_ X hinJx35411 hW 0 rfl rfl 0 (by decide) 1 rfl rfl rfl dJx35411_hasNext_aae02_1 ?_
  refine lv_aload_n hx hb dJx35411_hasNext_aae02_4 rfl (lv_at hl 0 rfl) ?_
  refine g_ X hinJx35411 hW 0 rfl rfl 3 (by decide) 2 rfl rfl rfl dJx35411_hasNext_aae02_5 ?_
  refine gN_ X hinJx4a65c hW 1 rfl rfl 2 (by decide) 0 rfl rfl rfl dJx35411_hasNext_aae02_8 ?_
  refine lv_icmp_eq (tgt := 18) hx hb dJx35411_hasNext_aae02_11 (by decide) (fun cq => ?_) (fun cq => ?_)
  · refine lv_iconst (v := 0) hx hb dJx35411_hasNext_aae02_18 (by decide) ?_
    exact hI _ _ _ _ _ _ _ _ _ ⟨by rw [if_neg (by have := (nI_eq (by omega) (by omega)).mp cq; omega)], rfl⟩ rfl rfl (Nat.le_of_ble_eq_true rfl) (Nat.le_of_ble_eq_true rfl) hW dJx35411_hasNext_aae02_19
  · refine lv_iconst (v := 1) hx hb dJx35411_hasNext_aae02_14 (by decide) ?_
    refine lv_goto (tgt := 19) hx hb dJx35411_hasNext_aae02_15 (by decide) ?_
    exact hI _ _ _ _ _ _ _ _ _ ⟨by rw [if_pos (by have : ¬ ku = n := fun e => cq (by rw [e]); omega)], rfl⟩ rfl rfl (Nat.le_of_ble_eq_true rfl) (Nat.le_of_ble_eq_true rfl) hW dJx35411_hasNext_aae02_19
abbrev rmJx35411_next_0502b : Room := { frames := 1, cells := 0, slots := 0, locals := 20 }
set_option maxRecDepth 100000 in
set_option maxHeartbeats 4000000 in
theorem kJx35411_next_0502b (l : Launch) (Dd : va_G) (Y : yT) (it b ae cap ku n : Nat) (la mo : Int32) (f : Nat → Option Nat) (hc : ku < n) (hn : n ≤ cap) (hb : cap < 2 ^ 31) : MR l yJx35411_next_0502b wsJx35411_next_0502b rmJx35411_next_0502b Dd Y [.ref it] ([(it, .inr (10, [.int (nI ku), .int la, .int mo, .ref b])), (b, .inr (11, [.int mo, .ref ae, .int (nI n)])), (ae, .inl (Y.2.1 2, cap, .inr (.inr (.inr (.inr f)))))]) (fun rv w => rv = some (va_rf (f ku)) ∧ w = [(it, .inr (10, [.int (nI (ku + 1)), .int (nI ku), .int mo, .ref b])), (b, .inr (11, [.int mo, .ref ae, .int (nI n)])), (ae, .inl (Y.2.1 2, cap, .inr (.inr (.inr (.inr f)))))]) 0 0 := by
  refine MRk (cc := cJx35411_next_0502b) (maxL := 3) (ret := (some (.object "java/lang/Object"))) (by decide) rfl (Nat.le_of_ble_eq_true rfl) (fun {p₀ e₀ s m args below meth c₀ A} ls Q X hin hW hl hI hV hA => ?_)
  have hx := X.x
  have hb := X.b
  have hl : lv_has ls 3 [(0, .ref it)] := hl
  have hinJx35411 : ∀ w ∈ wsJx354110, w ∈ wsJx35411_next_0502b := fun w h => List.mem_cons_of_mem _ (List.mem_append_left _ (List.mem_append_right _ h))
  have hinJx4a65c : ∀ w ∈ wsJx4a65c0, w ∈ wsJx35411_next_0502b := fun w h => List.mem_cons_of_mem _ (List.mem_append_right _ h)
  refine lv_aload_n hx hb dJx35411_next_0502b_0 rfl (lv_at hl 0 rfl) ?_
  refine rV_ (As := []) (rest := []) (wc := [(it, .inr (10, [.int (nI ku), .int la, .int mo, .ref b])), (b, .inr (11, [.int mo, .ref ae, .int (nI n)]))]) (w9 := [(ae, .inl (Y.2.1 2, cap, .inr (.inr (.inr (.inr f)))))]) X (kJx35411_checkForComodification_da8c8 l Dd Y it b (nI ku) la mo (nI n) (.ref ae)) (cwV 0 X.1.2.2.2.2 gJx35411_next_0502b_Jx35411_checkForComodification_da8c8 rfl rfl rfl (by decide +kernel) ⟨(Nat.le_of_ble_eq_true rfl), (Nat.le_of_ble_eq_true rfl)⟩) hW (List.Perm.refl _) 0 10 rfl rfl rfl rfl hl.1 rfl (Nat.le_of_ble_eq_true rfl) dJx35411_next_0502b_1 ⟨(Nat.le_of_ble_eq_true rfl), (Nat.le_of_ble_eq_true rfl)⟩ (fun rv wq H locs hp hW => ?_)
  obtain ⟨rfl, rfl⟩ := hp
  have hW : Wd Dd A s.heap ([(it, .inr (10, [.int (nI ku), .int la, .int mo, .ref b])), (b, .inr (11, [.int mo, .ref ae, .int (nI n)])), (ae, .inl (Y.2.1 2, cap, .inr (.inr (.inr (.inr f)))))]) H locs := hW
  refine W.eq (g2 := F0 m 4 ls []) rfl ?_
  refine lv_aload_n hx hb dJx35411_next_0502b_4 rfl (lv_at hl 0 rfl) ?_
  refine g_ X hinJx35411 hW 0 rfl rfl 0 (by decide) 1 rfl rfl rfl dJx35411_next_0502b_5 ?_
  refine lv_istore_n (lv' := [(1, .int (nI ku)), (0, .ref it)]) hx hb dJx35411_next_0502b_8 rfl hl (by decide) rfl (fun ls hl => ?_)
  refine lv_iload_n hx hb dJx35411_next_0502b_9 rfl (lv_at hl 0 rfl) ?_
  refine lv_aload_n hx hb dJx35411_next_0502b_10 rfl (lv_at hl 1 rfl) ?_
  refine g_ X hinJx35411 hW 0 rfl rfl 3 (by decide) 2 rfl rfl rfl dJx35411_next_0502b_11 ?_
  refine gN_ X hinJx4a65c hW 1 rfl rfl 2 (by decide) 0 rfl rfl rfl dJx35411_next_0502b_14 ?_
  refine lv_icmp_lt (tgt := 28) hx hb dJx35411_next_0502b_17 (by decide) (fun _ => ?_) (fun h => absurd (nI_lt hc (by omega)) h)
  refine lv_aload_n hx hb dJx35411_next_0502b_28 rfl (lv_at hl 1 rfl) ?_
  refine g_ X hinJx35411 hW 0 rfl rfl 3 (by decide) 2 rfl rfl rfl dJx35411_next_0502b_29 ?_
  refine g_ X hinJx4a65c hW 1 rfl rfl 1 (by decide) 3 rfl rfl rfl dJx35411_next_0502b_32 ?_
  refine lv_astore_n (lv' := [(2, .ref ae), (1, .int (nI ku)), (0, .ref it)]) hx hb dJx35411_next_0502b_35 rfl hl (by decide) rfl (fun ls hl => ?_)
  refine lv_iload_n hx hb dJx35411_next_0502b_36 rfl (lv_at hl 1 rfl) ?_
  refine lv_aload_n hx hb dJx35411_next_0502b_37 rfl (lv_at hl 0 rfl) ?_
  refine len_ (v := nI cap) X hW 2 4 rfl rfl rfl dJx35411_next_0502b_38 ?_
  refine lv_icmp_lt (tgt := 50) hx hb dJx35411_next_0502b_39 (by decide) (fun _ => ?_) (fun h => absurd (nI_lt (by omega) (by omega)) h)
  refine lv_aload_n hx hb dJx35411_next_0502b_50 rfl (lv_at hl 2 rfl) ?_
  refine lv_iload_n hx hb dJx35411_next_0502b_51 rfl (lv_at hl 1 rfl) ?_
  refine lv_iconst (v := 1) hx hb dJx35411_next_0502b_52 (by decide) ?_
  refine lv_iadd hx hb dJx35411_next_0502b_53 ?_
  rw [nI_1]
  refine p_ (ty := .int) X hinJx35411 tyJx35411 tyJx35411_ok nmJx35411 hW 0 rfl rfl 0 (by decide) 1 rfl rfl rfl (by decide +kernel) rfl rfl (Nat.le_of_ble_eq_true rfl) dJx35411_next_0502b_54 (ws' := [(it, .inr (10, [.int (nI (ku + 1)), .int la, .int mo, .ref b])), (b, .inr (11, [.int mo, .ref ae, .int (nI n)])), (ae, .inl (Y.2.1 2, cap, .inr (.inr (.inr (.inr f)))))]) rfl (fun H locs hW => ?_)
  refine lv_aload_n hx hb dJx35411_next_0502b_57 rfl (lv_at hl 0 rfl) ?_
  refine lv_aload_n hx hb dJx35411_next_0502b_58 rfl (lv_at hl 2 rfl) ?_
  refine lv_iload_n hx hb dJx35411_next_0502b_59 rfl (lv_at hl 1 rfl) ?_
  refine lv_dup_x1 hx hb dJx35411_next_0502b_60 rfl rfl ?_
  refine p_ (ty := .int) X hinJx35411 tyJx35411 tyJx35411_ok nmJx35411 hW 0 rfl rfl 1 (by decide) 4 rfl rfl rfl (by decide +kernel) rfl rfl (Nat.le_of_ble_eq_true rfl) dJx35411_next_0502b_61 (ws' := [(it, .inr (10, [.int (nI (ku + 1)), .int (nI ku), .int mo, .ref b])), (b, .inr (11, [.int mo, .ref ae, .int (nI n)])), (ae, .inl (Y.2.1 2, cap, .inr (.inr (.inr (.inr f)))))]) rfl (fun H locs hW => ?_)
  refine alq_ X hW 2 4 rfl rfl (vp_in_nI (by omega) (by omega)) dJx35411_next_0502b_64 ?_
  rw [nI_clamp (by omega)]
  exact hA _ _ _ _ _ _ _ _ _ ⟨rfl, rfl⟩ rfl (Or.inl ⟨_, rfl⟩) (Nat.le_of_ble_eq_true rfl) (Nat.le_of_ble_eq_true rfl) hW dJx35411_next_0502b_65
abbrev rmJx35411_init_45d68 : Room := { frames := 1, cells := 0, slots := 0, locals := 12 }
set_option maxRecDepth 100000 in
set_option maxHeartbeats 4000000 in
theorem kJx35411_init_45d68 (l : Launch) (Dd : va_G) (Y : yT) (it b : Nat) (mo n : Int32) (v : Value) : MR l yJx35411_init_45d68 wsJx35411_init_45d68 rmJx35411_init_45d68 Dd Y [.ref it, .ref b] ([(it, .inr (10, [.int 0, .int 0, .int 0, .null])), (b, .inr (11, [.int mo, v, .int n]))]) (fun rv w => rv = none ∧ w = [(it, .inr (10, [.int 0, .int (-1), .int mo, .ref b])), (b, .inr (11, [.int mo, v, .int n]))]) 0 0 := by
  refine MRk (cc := cJx35411_init_45d68) (maxL := 2) (ret := none) (by decide) rfl (Nat.le_of_ble_eq_true rfl) (fun {p₀ e₀ s m args below meth c₀ A} ls Q X hin hW hl hI hV hA => ?_)
  have hx := X.x
  have hb := X.b
  have hl : lv_has ls 2 [(0, .ref it), (1, .ref b)] := hl
  have hinJx35411 : ∀ w ∈ wsJx354110, w ∈ wsJx35411_init_45d68 := fun w h => List.mem_cons_of_mem _ (List.mem_append_left _ (List.mem_append_right _ h))
  have hinJx4a65c : ∀ w ∈ wsJx4a65c0, w ∈ wsJx35411_init_45d68 := fun w h => List.mem_cons_of_mem _ (List.mem_append_right _ h)
  refine lv_aload_n hx hb dJx35411_init_45d68_0 rfl (lv_at hl 0 rfl) ?_
  refine lv_aload_n hx hb dJx35411_init_45d68_1 rfl (lv_at hl 1 rfl) ?_
  refine pf_ (ty := (.object "java/util/ArrayList")) X hin hinJx35411 tyJx35411 tyJx35411_ok nmJx35411 hW 0 rfl rfl 3 (by decide) 1 rfl rfl rfl rfl (by decide +kernel) rfl rfl (Nat.le_of_ble_eq_true rfl) dJx35411_init_45d68_2 (ws' := [(it, .inr (10, [.int 0, .int 0, .int 0, .ref b])), (b, .inr (11, [.int mo, v, .int n]))]) rfl (fun H locs hW => ?_)
  refine lv_aload_n hx hb dJx35411_init_45d68_5 rfl (lv_at hl 0 rfl) ?_
  refine W.objInit hx hb X.1.2.2.2.1 (X.w (i := 2) rfl) (X.w (i := 3) rfl) (X.w (i := 4) rfl) rfl (by rw [X.1.2.2.1]; exact hl.1) rfl dJx35411_init_45d68_6 (Nat.le_of_ble_eq_true rfl) (Nat.le_of_ble_eq_true rfl) ?_
  refine W.eq (g2 := F0 m 9 ls []) rfl ?_
  refine lv_aload_n hx hb dJx35411_init_45d68_9 rfl (lv_at hl 0 rfl) ?_
  refine lv_iconst (v := (-1)) hx hb dJx35411_init_45d68_10 (by decide) ?_
  refine p_ (ty := .int) X hinJx35411 tyJx35411 tyJx35411_ok nmJx35411 hW 0 rfl rfl 1 (by decide) 5 rfl rfl rfl (by decide +kernel) rfl rfl (Nat.le_of_ble_eq_true rfl) dJx35411_init_45d68_11 (ws' := [(it, .inr (10, [.int 0, .int (-1), .int 0, .ref b])), (b, .inr (11, [.int mo, v, .int n]))]) rfl (fun H locs hW => ?_)
  refine lv_aload_n hx hb dJx35411_init_45d68_14 rfl (lv_at hl 0 rfl) ?_
  refine lv_aload_n hx hb dJx35411_init_45d68_15 rfl (lv_at hl 0 rfl) ?_
  refine g_ X hinJx35411 hW 0 rfl rfl 3 (by decide) 1 rfl rfl rfl dJx35411_init_45d68_16 ?_
  refine gS_ X hinJx4a65c hW 1 rfl rfl 0 (by decide) 6 7 rfl rfl rfl dJx35411_init_45d68_19 ?_
  refine p_ (ty := .int) X hinJx35411 tyJx35411 tyJx35411_ok nmJx35411 hW 0 rfl rfl 2 (by decide) 8 rfl rfl rfl (by decide +kernel) rfl rfl (Nat.le_of_ble_eq_true rfl) dJx35411_init_45d68_22 (ws' := [(it, .inr (10, [.int 0, .int (-1), .int mo, .ref b])), (b, .inr (11, [.int mo, v, .int n]))]) rfl (fun H locs hW => ?_)
  exact hV _ _ _ _ _ _ _ ⟨rfl, rfl⟩ rfl (Nat.le_of_ble_eq_true rfl) (Nat.le_of_ble_eq_true rfl) hW dJx35411_init_45d68_25
abbrev rmJx4a65c_iterator_32c93 : Room := { frames := 2, cells := 1, slots := 4, locals := 33 }
set_option maxRecDepth 100000 in
set_option maxHeartbeats 4000000 in
theorem kJx4a65c_iterator_32c93 (l : Launch) (Dd : va_G) (Y : yT) (b : Nat) (mo n : Int32) (v : Value) : MR l yJx4a65c_iterator_32c93 wsJx4a65c_iterator_32c93 rmJx4a65c_iterator_32c93 Dd Y [.ref b] ([(b, .inr (11, [.int mo, v, .int n]))]) (fun rv w => ∃ q : Nat, rv = some (.ref q) ∧ w = [(q, .inr (10, [.int 0, .int (-1), .int mo, .ref b])), (b, .inr (11, [.int mo, v, .int n]))]) 1 4 := by
  refine MRk (cc := cJx4a65c_iterator_32c93) (maxL := 1) (ret := (some (.object "java/util/Iterator"))) (by decide) rfl (Nat.le_of_ble_eq_true rfl) (fun {p₀ e₀ s m args below meth c₀ A} ls Q X hin hW hl hI hV hA => ?_)
  have hx := X.x
  have hb := X.b
  have hl : lv_has ls 1 [(0, .ref b)] := hl
  have hinJx35411 : ∀ w ∈ wsJx354110, w ∈ wsJx4a65c_iterator_32c93 := fun w h => List.mem_cons_of_mem _ (List.mem_append_left _ (List.mem_append_right _ h))
  refine nw_ (ci := 10) X hinJx35411 tyJx35411 tyJx35411_ok 1 2 3 rfl rfl rfl hW rfl [.int 0, .int 0, .int 0, .null] (fun j hj => by rcases (show j = 0 ∨ j = 1 ∨ j = 2 ∨ j = 3 by omega) with rfl | rfl | rfl | rfl <;> rfl) (Nat.le_of_ble_eq_true rfl) (Nat.le_of_ble_eq_true rfl) dJx4a65c_iterator_32c93_0 (fun it H hW => ?_)
  have hW : Wd Dd A s.heap ([(b, .inr (11, [.int mo, v, .int n])), (it, .inr (10, [.int 0, .int 0, .int 0, .null]))]) _ _ := hW
  refine lv_dup hx hb dJx4a65c_iterator_32c93_3 rfl ?_
  refine lv_aload_n hx hb dJx4a65c_iterator_32c93_4 rfl (lv_at hl 0 rfl) ?_
  refine rI_ (As := [.ref b]) (rest := [.ref it]) (wc := [(it, .inr (10, [.int 0, .int 0, .int 0, .null])), (b, .inr (11, [.int mo, v, .int n]))]) (w9 := []) X (kJx35411_init_45d68 l Dd Y it b mo n v) (cwI 1 X.1.2.2.2.2 gJx4a65c_iterator_32c93_Jx35411_init_45d68 rfl rfl rfl (X.w (i := 3) rfl) (X.w (i := 4) rfl) (X.w (i := 5) rfl) rfl (by decide +kernel) ⟨(Nat.le_of_ble_eq_true rfl), (Nat.le_of_ble_eq_true rfl)⟩) hW (pmq4 _ _) rfl hl.1 rfl (Nat.le_of_ble_eq_true rfl) dJx4a65c_iterator_32c93_5 ⟨(Nat.le_of_ble_eq_true rfl), (Nat.le_of_ble_eq_true rfl)⟩ (fun rv wq H locs hp hW => ?_)
  obtain ⟨rfl, rfl⟩ := hp
  have hW : Wd Dd A s.heap ([(it, .inr (10, [.int 0, .int (-1), .int mo, .ref b])), (b, .inr (11, [.int mo, v, .int n]))]) H locs := hW
  refine W.eq (g2 := F0 m 8 ls [.ref it]) rfl ?_
  exact hA _ _ _ _ _ _ (some it) _ _ ⟨it, rfl, rfl⟩ rfl (Or.inl ⟨_, rfl⟩) (Nat.le_of_ble_eq_true rfl) (Nat.le_of_ble_eq_true rfl) hW dJx4a65c_iterator_32c93_8
