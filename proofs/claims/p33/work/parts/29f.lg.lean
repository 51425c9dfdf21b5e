/-! the law's row against a reference row -/
def LG (vs ks : List Nat) (ca : Nat → Nat) (f : Nat → va_E) (ru mo lk wn qu bu : Int32) (g : Nat → Int32) (Pk : kL) : Prop :=
  (NG vs f g ∧ NW vs f g) ∧ (∀ l p : Nat, 1 ≤ l → l ≤ 5 → p + 2 ^ l ≤ vs.length → ∃ c : Nat, g (92 + 40 * (l - 1) + p) = nI c ∧ c < vs.length ∧ clA (f (ca l)) p = vs[c]?) ∧ (ru = g 1 ∧ mo = g 2 ∧ lk = g 7 ∧ wn = g 8 ∧ qu = g 9 ∧ bu = g 10) ∧
  RKL g Pk ∧ Pk.length = ks.length ∧ KLv vs.length Pk ∧ ∀ k y : Nat, ks[k]? = some y → ∃ a b : Nat, Pk[k]? = some (a, b) ∧ vs[a]? = some (frA (f y)) ∧ vs[b]? = some (toA (f y))
theorem st_inj {F : gF} {w : Nat} {g g' : Nat → Int32} (h : st F w g = st F w g') (k : Nat) (hk : k < 310) : g k = g' k := by
  rw [← row_st (F := F) (w := w) (g := g) hk, ← row_st (F := F) (w := w) (g := g') hk, h]
theorem LG.cg {vs ks : List Nat} {ca : Nat → Nat} {f : Nat → va_E} {ru mo lk wn qu bu : Int32} {g g' : Nat → Int32} {Pk : kL} (h3 : vs.length ≤ 40) (h : LG vs ks ca f ru mo lk wn qu bu g Pk) (e : ∀ k : Nat, k < 310 → g' k = g k) : LG vs ks ca f ru mo lk wn qu bu g' Pk := by
  obtain ⟨⟨h1, h2⟩, hc, ⟨i1, i2, i3, i4, i5, i6⟩, ⟨r1, r2, r3⟩, hl, hv, hk⟩ := h
  refine ⟨⟨fun p v hp => ?_, fun p v hp => ?_⟩, fun l p q1 q5 q2 => ?_, ⟨?_, ?_, ?_, ?_, ?_, ?_⟩, ⟨r1, ?_, fun k a b q => ?_⟩, hl, hv, hk⟩
  · have := (List.getElem?_eq_some_iff.mp hp).1
    rw [e _ (by omega)]; exact h1 p v hp
  · have := (List.getElem?_eq_some_iff.mp hp).1
    rw [e _ (by omega)]; exact h2 p v hp
  · have h0 : 0 < 2 ^ l := Nat.two_pow_pos l
    rw [e _ (by omega)]; exact hc l p q1 q5 q2
  · rw [e _ (by decide)]; exact i1
  · rw [e _ (by decide)]; exact i2
  · rw [e _ (by decide)]; exact i3
  · rw [e _ (by decide)]; exact i4
  · rw [e _ (by decide)]; exact i5
  · rw [e _ (by decide)]; exact i6
  · rw [e _ (by decide)]; exact r2
  · have hk8 : k < 8 := by have := kl_lt q; omega
    rw [e _ (by omega), e _ (by omega)]; exact r3 k a b q
theorem LG.hc {vs ks : List Nat} {ca : Nat → Nat} {f : Nat → va_E} {ru mo lk wn qu bu : Int32} {g : Nat → Int32} {Pk : kL} {kc : Nat} (h : LG vs ks ca f ru mo lk wn qu bu g Pk) (hW : WF g vs.length kc) : HCo vs ca f g := fun l p q1 q5 q2 hz => by
  obtain ⟨c, e1, e2, e3⟩ := h.2.1 l p q1 q5 q2
  obtain ⟨c', k1, k2, k3, k4⟩ := hW.2.2.2.2.2.2.2 l p q1 q5 q2
  have n40 := hW.1.2.1
  have hcc : c = c' := (nI_eq (by omega) (by omega)).mp (e1.symm.trans k1)
  rw [e3, hcc, k4 hz]
/-- all that isSo asks -/
theorem LG.so {V : gX} {vs ks L : List Nat} {ca : Nat → Nat} {f : Nat → va_E} {ru mo lk wn qu bu : Int32} {g : Nat → Int32} {Pk : kL} (h : LG vs ks ca f ru mo lk wn qu bu g Pk) (hK : KK V g vs.length ks.length) : SoV V vs g ∧ SoC V vs ca f ∧ SoK V vs ks f ∧ SoS V 0 (nI vs.length) ∧ SoS V 4 (nI (cs (fun l => vs.length + 1 - 2 ^ l) 5)) ∧ SoS V 5 (nI (wc g vs.length)) ∧ SoS V 6 (nI ks.length) ∧ SoS V 7 lk ∧ SoS V 8 wn ∧ SoS V 9 qu ∧ SoS V 10 bu := by
  obtain ⟨h1, hc, ⟨i1, i2, i3, i4, i5, i6⟩, ⟨r1, r2, r3⟩, hl, hv, hk⟩ := h
  refine ⟨fun k q => ⟨kk_val hK q, kk_wait hK q⟩, fun l p q1 q5 q2 => ?_, fun k y q => ?_, ?_, kk_st4 hK, kk_st5 hK, ?_, ?_, ?_, ?_, ?_⟩
  · obtain ⟨c, e1, e2, e3⟩ := hc l p q1 q5 q2
    obtain ⟨v, hv⟩ := vs_at e2
    exact ⟨c, v, by rw [kk_cell hK q1 q5 q2, e1], e3.trans hv, hv⟩
  · obtain ⟨a, b, e1, e2, e3⟩ := hk k y q
    have hkc := (List.getElem?_eq_some_iff.mp q).1
    obtain ⟨k1, k2⟩ := r3 k a b e1
    exact ⟨a, b, e2, e3, by rw [kk_kept hK hkc, k1, k2]⟩
  · have := kk_st (m := 0) hK (by decide) (by decide) (by decide) (by decide)
    rw [hK.1.1.2.2] at this; exact this
  · have := kk_st (m := 6) hK (by decide) (by decide) (by decide) (by decide)
    rw [hK.1.2.1.2] at this; exact this
  · rw [i3]; exact kk_st (m := 7) hK (by decide) (by decide) (by decide) (by decide)
  · rw [i4]; exact kk_st (m := 8) hK (by decide) (by decide) (by decide) (by decide)
  · rw [i5]; exact kk_st (m := 9) hK (by decide) (by decide) (by decide) (by decide)
  · rw [i6]; exact kk_st (m := 10) hK (by decide) (by decide) (by decide) (by decide)
theorem cl_cg {W W' : Nat → Bool} : ∀ (m j r : Nat), (∀ p : Nat, j ≤ p → p < j + m → W p = W' p) → cl W m j r = cl W' m j r := by
  intro m
  induction m with
  | zero => intro j r _; rfl
  | succ m ih =>
    intro j r h
    rw [cl, cl, h j (Nat.le_refl _) (by omega), ih (j + 1) 0 (fun p q1 q2 => h p (by omega) (by omega)), ih (j + 1) (r + 1) (fun p q1 q2 => h p (by omega) (by omega))]
theorem wb_Wg {x : Int64} {g : Nat → Int32} {p : Nat} (h : wb x p = true ↔ g (52 + p) = 1) : wb x p = Wg g p := by
  unfold Wg
  by_cases c : g (52 + p) = 1
  · rw [h.mpr c]; exact (decide_eq_true c).symm
  · rw [decide_eq_false c]
    cases hw : wb x p with
    | false => rfl
    | true => exact absurd (h.mp hw) c
/-- a question that needs no build -/
theorem LG.ask {V : gX} {vs ks : List Nat} {ca : Nat → Nat} {f : Nat → va_E} {ru mo lk wn qu bu : Int32} {g : Nat → Int32} {Pk : kL} {a b : Nat} (h : LG vs ks ca f ru mo lk wn qu bu g Pk) (hK : KK V g vs.length ks.length) (hab : a ≤ b) (hb : b < vs.length) (hnb : ¬ g 1 = 0 ∨ wc g vs.length = 0) : ∃ (V' : gX) (g' : Nat → Int32), dnX4_ask V (nI a) (nI b) = some (.inr (nI (lm g a (b - a)), V')) ∧ KK V' g' vs.length ks.length ∧ LG vs ks ca f ru mo (lk + nI (cl (Wg g) (b + 1 - a) a 0)) wn (qu + 1) bu g' Pk ∧ (∀ k : Nat, k < 310 → k ≠ 7 → k ≠ 9 → g' k = g k) := by
  obtain ⟨V', g', e4, e5, hK'⟩ := kk_ask hK hab hb
  obtain ⟨hW, hR, -⟩ := id hK
  obtain ⟨⟨n1, n40, hn⟩, -, -, -, ⟨hB, -⟩, -⟩ := id hW
  have hx : ∀ p : Nat, p < 40 → (wb V.2.1.2 p = true ↔ g (52 + p) = 1) := fun p hp => (hR.2.2.2.1 p (by omega)).trans ⟨fun q => q.2, fun q => ⟨hp, q⟩⟩
  obtain ⟨c, c1, c2, c3, e6⟩ := asksM (S := True) (F := F0r) (w := 0) F0r_M hn n40 hB hx hW.cw hab hb hnb
  have eg := (Prod.mk.inj (Option.some.inj (e5.symm.trans e6))).2
  have hcl : cl (wb V.2.1.2) (b + 1 - a) a 0 = cl (Wg g) (b + 1 - a) a 0 := cl_cg _ _ _ (fun p q1 q2 => wb_Wg (hx p (by omega)))
  rw [hcl] at eg
  have hg' : ∀ k : Nat, k < 310 → g' k = upd (upd g 9 (g 9 + 1)) 7 (g 7 + nI (cl (Wg g) (b + 1 - a) a 0)) k := fun k hk => st_inj eg k hk
  refine ⟨V', g', e4, hK', LG.cg n40 ?_ hg', fun k hk k7 k9 => by rw [hg' k hk, pk_un k7, pk_un k9]⟩
  obtain ⟨⟨h1, h2⟩, hc, ⟨i1, i2, i3, i4, i5, i6⟩, ⟨r1, r2, r3⟩, hl, hv, hk⟩ := h
  have un : ∀ k : Nat, k ≠ 7 → k ≠ 9 → upd (upd g 9 (g 9 + 1)) 7 (g 7 + nI (cl (Wg g) (b + 1 - a) a 0)) k = g k := fun k k7 k9 => by rw [pk_un k7, pk_un k9]
  refine ⟨⟨fun p v hp => ?_, fun p v hp => ?_⟩, fun l p q1 q5 q2 => ?_, ⟨?_, ?_, ?_, ?_, ?_, ?_⟩, ⟨r1, ?_, fun k a b q => ?_⟩, hl, hv, hk⟩
  · rw [un _ (by omega) (by omega)]; exact h1 p v hp
  · rw [un _ (by omega) (by omega)]; exact h2 p v hp
  · rw [un _ (by omega) (by omega)]; exact hc l p q1 q5 q2
  · rw [un _ (by decide) (by decide)]; exact i1
  · rw [un _ (by decide) (by decide)]; exact i2
  · rw [pk_us, i3]
  · rw [un _ (by decide) (by decide)]; exact i4
  · rw [pk_un (by decide), pk_us, i5]
  · rw [un _ (by decide) (by decide)]; exact i6
  · rw [un _ (by decide) (by decide)]; exact r2
  · rw [un _ (by omega) (by omega), un _ (by omega) (by omega)]; exact r3 k a b q
