/-! the law's row against a reference row: all kept stretches asked -/
theorem wc_cg {g g' : Nat → Int32} : ∀ n : Nat, (∀ p : Nat, p < n → g (52 + p) = g' (52 + p)) → wc g n = wc g' n := by
  intro n
  induction n with
  | zero => intro _; rfl
  | succ n ih => intro h; rw [wc, wc, ih (fun p hp => h p (by omega)), h n (by omega)]
theorem Wg_cg {g g' : Nat → Int32} {p : Nat} (h : g (52 + p) = g' (52 + p)) : Wg g p = Wg g' p := by unfold Wg; rw [h]
/-- a run of questions, one kept stretch after the other -/
def QX (V : gX) (L : kL) : Nat → gX → Prop
  | 0, V' => V' = V
  | i + 1, V' => ∃ (V1 : gX) (a b : Nat) (r : Int32), QX V L i V1 ∧ L[i]? = some (a, b) ∧ dnX4_ask V1 (nI a) (nI b) = some (.inr (r, V'))
theorem QX.inj {V : gX} {L : kL} : ∀ (i : Nat) (V1 V2 : gX), QX V L i V1 → QX V L i V2 → V1 = V2 := by
  intro i
  induction i with
  | zero => intro V1 V2 h1 h2; exact Eq.trans (show V1 = V from h1) (Eq.symm (show V2 = V from h2))
  | succ i ih =>
    intro V1 V2 h1 h2
    obtain ⟨U1, a, b, r, k1, k2, k3⟩ := h1
    obtain ⟨U2, a', b', r', j1, j2, j3⟩ := h2
    obtain rfl := ih U1 U2 k1 j1
    obtain ⟨rfl, rfl⟩ := Prod.mk.inj (Option.some.inj (k2.symm.trans j2))
    have e := Sum.inr.inj (Option.some.inj (k3.symm.trans j3))
    exact (Prod.mk.inj e).2
theorem kk_askQ {V : gX} {g : Nat → Int32} {n kc a b : Nat} (h : KK V g n kc) (hab : a ≤ b) (hb : b < n) : ∃ (V' : gX) (g' : Nat → Int32), dnX4_ask V (nI a) (nI b) = some (.inr (nI (lm g a (b - a)), V')) ∧ dnX1_question V.2.1 (nI a) (nI b) = some (nI (lm g a (b - a)), V'.2.1) ∧ KK V' g' n kc ∧ QF g g' := by
  obtain ⟨hW, hR, u, x, q1, q2, q4, q5⟩ := h
  obtain ⟨⟨n1, n40, hn⟩, -⟩ := id hW
  have hc : V.2.1.1 0 3 = nI n := hR.1.1.trans hn
  obtain ⟨G', g', e4, e5, hW', hR', hQ⟩ := question_b F0r_M hW hR hab hb
  refine ⟨nxV V x G', g', ?_, e4, KK.nx q1 q2 q4 q5 hW' hR', hQ⟩
  unfold dnX4_ask
  rw [strC hc n40 hab hb, bx_r, q5, wi_ok q2 (by decide), bw_s, e4, bs_s]
  rfl
theorem sweepC {V : gX} {n kc : Nat} {lim : Int32} {g0 : Nat → Int32} {L : kL} (hl : L.length = kc) (hv : KLv n L) : ∀ (N i : Nat) (Vi : gX) (g : Nat → Int32) (G : gR), i ≤ kc → kc < N + i → QX V L i Vi → KK Vi g n kc → (∀ k : Nat, 12 ≤ k → k < 52 → g k = g0 k) → (∀ b : Nat, b ≠ 3 → b ≠ 4 → b ≠ 5 → G.1 b = Vi.2.1.1 b) → G.2 = Vi.2.1.2 → CKL G ((L.take i).filter (stays g0 lim) ++ L.drop i) → ∃ (V' : gX) (g' : Nat → Int32) (G' : gR), lpX1_askAndDropBelow_13 lim N (nI (i - ((L.take i).filter (stays g0 lim)).length)) (nI ((L.take i).filter (stays g0 lim)).length) (nI (kc - i)) G = some (0, nI (kc - (L.filter (stays g0 lim)).length), G') ∧ QX V L kc V' ∧ KK V' g' n kc ∧ (∀ b : Nat, b ≠ 3 → b ≠ 4 → b ≠ 5 → G'.1 b = V'.2.1.1 b) ∧ G'.2 = V'.2.1.2 ∧ CKL G' (L.filter (stays g0 lim)) := by
  intro N
  induction N with
  | zero => intro i Vi g G h1 h2; omega
  | succ N ih =>
    intro i Vi g G h1 h2 hX hK hg hG hw hC
    have k8 := hK.1.2.1.1
    have n40 := hK.1.1.2.1
    have hfl : ((L.take i).filter (stays g0 lim)).length ≤ i := by
      have := List.length_filter_le (stays g0 lim) (L.take i)
      rw [List.length_take] at this
      omega
    unfold lpX1_askAndDropBelow_13
    by_cases hi : kc ≤ i
    · have e1 : L.take i = L := List.take_of_length_le (by omega)
      have e2 : L.drop i = [] := List.drop_eq_nil_of_le (by omega)
      rw [e1, e2, List.append_nil] at hC
      rw [show kc - i = 0 by omega, if_pos (show nI 0 ≤ 0 from Int32.le_refl _), e1, show i = kc by omega]
      exact ⟨Vi, g, G, rfl, by rw [show kc = i by omega]; exact hX, hK, hG, hw, hC⟩
    · obtain ⟨a, b, q⟩ := kl_get (show i < L.length by omega)
      obtain ⟨v1, v2⟩ := hv i a b q
      have hd := drop_s q
      have ht := take_s q
      have hq2 : ((L.take i).filter (stays g0 lim) ++ L.drop i)[((L.take i).filter (stays g0 lim)).length]? = some (a, b) := by
        rw [List.getElem?_append_right (Nat.le_refl _), Nat.sub_self, hd]; rfl
      obtain ⟨d1, d2⟩ := hC.2.2 _ a b hq2
      obtain ⟨c1, c2⟩ := keptC (G := G) (show ((L.take i).filter (stays g0 lim)).length < 8 by omega)
      rw [d1] at c1
      rw [d2] at c2
      obtain ⟨V1, g1, eX, e4, hK1, hQ⟩ := kk_askQ hK v1 v2
      have hR1 := hK1.2.1
      have hrep := rep_eq hG hw
      have e4' : dnX1_question G (nI a) (nI b) = some (nI (lm g a (b - a)), rep G.1 V1.2.1) := by
        have hq3 := rep_q G.1 Vi.2.1 (nI a) (nI b)
        rw [← hrep] at hq3
        rw [hq3, e4]; rfl
      have hg1 : ∀ k : Nat, 12 ≤ k → k < 52 → g1 k = g0 k := fun k q1 q2 => by rw [hQ k (by omega) (by omega) (by omega) (by omega) (by omega)]; exact hg k q1 q2
      have hb := lm_b g a (b - a)
      have elm : lm g a (b - a) = lm g0 a (b - a) := lm_cg _ (fun j j1 j2 => hg _ (by omega) (by omega))
      have hG1 : ∀ b : Nat, b ≠ 3 → b ≠ 4 → b ≠ 5 → (rep G.1 V1.2.1).1 b = V1.2.1.1 b := fun b b1 b2 b3 => by simp only [rep]; rw [if_neg (by omega)]
      have hC1 : CKL (rep G.1 V1.2.1) ((L.take i).filter (stays g0 lim) ++ L.drop i) := hC
      have ev4 : dnX1_valueAt (rep G.1 V1.2.1) (nI (lm g a (b - a))) = some (g0 (12 + lm g0 a (b - a))) := by
        rw [valueC (by omega), hG1 1 (by decide) (by decide) (by decide), hR1.2.1 _ (by omega), hg1 _ (by omega) (by omega), elm]
      have hX1 : QX V L (i + 1) V1 := ⟨Vi, a, b, _, hX, q, eX⟩
      rw [if_neg (show ¬ nI (kc - i) ≤ 0 from nI_nle (by omega) (by omega)), c1, bp_s, c2, bp_s, e4', bs_s, ev4, bp_s, nI_m1 (by omega), nI_1, nI_1]
      by_cases hs : lim ≤ g0 (12 + lm g0 a (b - a))
      · have hst : stays g0 lim (a, b) = true := decide_eq_true hs
        have hf : (L.take (i + 1)).filter (stays g0 lim) = (L.take i).filter (stays g0 lim) ++ [(a, b)] := by
          rw [ht, List.filter_append, List.filter_cons, hst]; rfl
        have hC2 : CKL (rep G.1 V1.2.1) ((L.take (i + 1)).filter (stays g0 lim) ++ L.drop (i + 1)) := by
          rw [hf, List.append_assoc]
          rw [hd] at hC1
          exact hC1
        rw [if_pos hs]
        obtain ⟨V', g', G', r1, r5⟩ := ih (i + 1) V1 g1 (rep G.1 V1.2.1) (by omega) (by omega) hX1 hK1 hg1 hG1 rfl hC2
        refine ⟨V', g', G', ?_, r5⟩
        rw [hf, List.length_append] at r1
        rw [show i + 1 - (((L.take i).filter (stays g0 lim)).length + [(a, b)].length) = i - ((L.take i).filter (stays g0 lim)).length by rw [List.length_singleton]; omega] at r1
        exact r1
      · have hst : ¬ stays g0 lim (a, b) = true := fun z => hs (of_decide_eq_true z)
        have hf : (L.take (i + 1)).filter (stays g0 lim) = (L.take i).filter (stays g0 lim) := by
          rw [ht, List.filter_append, List.filter_cons, if_neg hst, List.filter_nil, List.append_nil]
        obtain ⟨G2, t1, t2, t3, t4⟩ := removeC hC1 (kl_lt hq2)
        have hC2 : CKL G2 ((L.take (i + 1)).filter (stays g0 lim) ++ L.drop (i + 1)) := by
          rw [hf]
          rw [List.eraseIdx_append_of_length_le (Nat.le_refl _), Nat.sub_self, hd] at t2
          exact t2
        rw [if_neg hs, t1, bp_s]
        obtain ⟨V', g', G', r1, r5⟩ := ih (i + 1) V1 g1 G2 (by omega) (by omega) hX1 hK1 hg1 (fun b b1 b2 b3 => by rw [t3 b b1 b2 b3, hG1 b b1 b2 b3]) t4 hC2
        refine ⟨V', g', G', ?_, r5⟩
        rw [hf] at r1
        rw [show i + 1 - ((L.take i).filter (stays g0 lim)).length = i - ((L.take i).filter (stays g0 lim)).length + 1 by omega] at r1
        exact r1
/-- another list of kept stretches -/
def krow (g : Nat → Int32) (M : kL) : Nat → Int32 := fun k => if k = 6 then nI M.length else if k < 292 then g k else if k % 2 = 0 then nI ((M.getD ((k - 292) / 2) (0, 0)).1) else nI ((M.getD ((k - 292) / 2) (0, 0)).2)
theorem krow_o {g : Nat → Int32} {M : kL} {k : Nat} (h : k < 292) (h6 : k ≠ 6) : krow g M k = g k := by
  unfold krow
  rw [if_neg h6, if_pos h]
theorem krow_k {g : Nat → Int32} {M : kL} (h : M.length ≤ 8) : RKL (krow g M) M := by
  refine ⟨h, by unfold krow; rw [if_pos rfl], fun k a b q => ?_⟩
  have e : M.getD k (0, 0) = (a, b) := by rw [List.getD_eq_getElem?_getD, q]; rfl
  unfold krow
  constructor
  · rw [if_neg (by omega), if_neg (by omega), if_pos (by omega), show (292 + 2 * k - 292) / 2 = k by omega, e]
  · rw [if_neg (by omega), if_neg (by omega), if_neg (by omega), show (293 + 2 * k - 292) / 2 = k by omega, e]
/-- two lists side by side, the same ones stay -/
theorem side2 {α β : Type} {R : α → β → Prop} {p : α → Bool} {p' : β → Bool} : ∀ (ks : List α) (Pk : List β), Pk.length = ks.length → (∀ (k : Nat) (y : α), ks[k]? = some y → ∃ z : β, Pk[k]? = some z ∧ R y z ∧ p y = p' z) → (Pk.filter p').length = (ks.filter p).length ∧ ∀ (k : Nat) (y : α), (ks.filter p)[k]? = some y → ∃ z : β, (Pk.filter p')[k]? = some z ∧ R y z := by
  intro ks
  induction ks with
  | nil =>
    intro Pk hl _
    obtain rfl : Pk = [] := List.length_eq_zero_iff.mp hl
    exact ⟨rfl, fun k y q => by simp at q⟩
  | cons y0 ks ih =>
    intro Pk hl h
    match Pk, hl with
    | z0 :: Pk, hl =>
      obtain ⟨z, e1, r0, e0⟩ := h 0 y0 rfl
      obtain rfl : z0 = z := Option.some.inj e1
      obtain ⟨i1, i2⟩ := ih Pk (by simpa using hl) (fun k y q => h (k + 1) y q)
      by_cases c : p y0 = true
      · have c' : p' z0 = true := by rw [← e0]; exact c
        rw [List.filter_cons_of_pos c', List.filter_cons_of_pos c]
        refine ⟨by rw [List.length_cons, List.length_cons, i1], fun k y q => ?_⟩
        match k, q with
        | 0, q =>
          obtain rfl : y0 = y := Option.some.inj q
          exact ⟨z0, rfl, r0⟩
        | k + 1, q => exact i2 k y q
      · have c' : ¬ p' z0 = true := by rw [← e0]; exact c
        rw [List.filter_cons_of_neg c', List.filter_cons_of_neg c]
        exact ⟨i1, i2⟩
/-- how the law's row and the class stand after so many questions -/
def JS (Y : yT) (V0 : gX) (vs ks L : List Nat) (ca : Nat → Nat) (f0 : Nat → va_E) (ru mo : Int32) (g0 : Nat → Int32) (Pk : kL) : sJ := fun ku g f lk wn qu bu =>
  (NG vs f g ∧ NW vs f g ∧ VO L vs f ∧ CO Y L ca f ∧ HCo vs ca f g ∧ (∀ k ∈ ks, f k = f0 k) ∧ ∀ p : Nat, p < vs.length → g (12 + p) = g0 (12 + p)) ∧
  ∃ (V : gX) (gh : Nat → Int32), QX V0 Pk ku V ∧ KK V gh vs.length ks.length ∧ LG vs ks ca f ru mo lk wn qu bu gh Pk
theorem JS.gh {vs ks : List Nat} {ca : Nat → Nat} {f : Nat → va_E} {ru mo lk wn qu bu : Int32} {g gh : Nat → Int32} {Pk : kL} (hg : NG vs f g) (hw : NW vs f g) (h : LG vs ks ca f ru mo lk wn qu bu gh Pk) {p : Nat} (hp : p < vs.length) : gh (12 + p) = g (12 + p) ∧ gh (52 + p) = g (52 + p) := by
  obtain ⟨v, hv⟩ := vs_at hp
  exact ⟨(h.1.1 p v hv).trans (hg p v hv).symm, (h.1.2 p v hv).trans (hw p v hv).symm⟩
theorem JS.ab {vs ks : List Nat} {ca : Nat → Nat} {f f0 : Nat → va_E} {ru mo lk wn qu bu : Int32} {gh : Nat → Int32} {Pk : kL} {ku k a b : Nat} (hnd : vs.Nodup) (h : LG vs ks ca f ru mo lk wn qu bu gh Pk) (hf : ∀ k ∈ ks, f k = f0 k) (hk : ks[ku]? = some k) (ha : vs[a]? = some (frA (f0 k))) (hb : vs[b]? = some (toA (f0 k))) : Pk[ku]? = some (a, b) := by
  obtain ⟨a', b', e1, e2, e3⟩ := h.2.2.2.2.2.2 ku k hk
  rw [hf k (List.mem_of_getElem? hk)] at e2 e3
  rw [e1, vs_inj hnd e2 ha, vs_inj hnd e3 hb]
theorem LG.sweep {V : gX} {Y : yT} {vs ks L : List Nat} {ca : Nat → Nat} {f : Nat → va_E} {ru mo lk wn qu bu lim : Int32} {g : Nat → Int32} {Pk : kL} (h : LG vs ks ca f ru mo lk wn qu bu g Pk) (hK : KK V g vs.length ks.length) (hvo : VO L vs f) (hS : SO L ks f) (hO : CO Y L ca f) (hlim : -999 ≤ lim ∧ lim ≤ 1000) : ∃ (st : Nat → Bool) (V' : gX), dnX4_sweep V lim = some (.inr (nI (ks.length - (ks.filter st).length), V')) ∧ sJok Y vs ks L ca f g (JS Y V vs ks L ca f ru mo g Pk) ∧ sJn vs ks f ru (JS Y V vs ks L ca f ru mo g Pk) ∧ sJb Y vs ks L ca f ru (JS Y V vs ks L ca f ru mo g Pk) ∧ JS Y V vs ks L ca f ru mo g Pk 0 g f lk wn qu bu ∧ (∀ k ∈ ks, ∃ a b : Nat, a ≤ b ∧ vs[a]? = some (frA (f k)) ∧ vs[b]? = some (toA (f k)) ∧ st k = decide (lim ≤ g (12 + lm g a (b - a)))) ∧ ∀ (g1 : Nat → Int32) (f1 : Nat → va_E) (lk1 wn1 qu1 bu1 : Int32), JS Y V vs ks L ca f ru mo g Pk ks.length g1 f1 lk1 wn1 qu1 bu1 → (∃ g' : Nat → Int32, KK V' g' vs.length (ks.filter st).length ∧ LG vs (ks.filter st) ca f1 ru mo lk1 wn1 qu1 bu1 g' (Pk.filter (stays g lim))) ∧ VO L vs f1 ∧ SO L (ks.filter st) f1 ∧ CO Y L ca f1 := by
  have n40 := hK.1.1.2.1
  have hHC := h.hc hK.1
  obtain ⟨hR, hl, hv, hk⟩ := h.2.2.2
  have hst : ∀ k ∈ ks, ∃ a b : Nat, a ≤ b ∧ vs[a]? = some (frA (f k)) ∧ vs[b]? = some (toA (f k)) ∧ (@decide (∃ a b : Nat, vs[a]? = some (frA (f k)) ∧ vs[b]? = some (toA (f k)) ∧ lim ≤ g (12 + lm g a (b - a))) (Classical.propDecidable _)) = decide (lim ≤ g (12 + lm g a (b - a))) := fun k hm => by
    obtain ⟨i, hi⟩ := List.getElem?_of_mem hm
    obtain ⟨a, b, e1, e2, e3⟩ := hk i k hi
    refine ⟨a, b, (hv i a b e1).1, e2, e3, ?_⟩
    by_cases c : lim ≤ g (12 + lm g a (b - a))
    · rw [decide_eq_true c]
      exact @decide_eq_true _ (Classical.propDecidable _) ⟨a, b, e2, e3, c⟩
    · rw [decide_eq_false c]
      refine @decide_eq_false _ (Classical.propDecidable _) (fun z => ?_)
      obtain ⟨a', b', z1, z2, z3⟩ := z
      rw [vs_inj hvo.1 z1 e2, vs_inj hvo.1 z2 e3] at z3
      exact c z3
  obtain ⟨hW, hRR, u, x, q1, q2, q4, q5⟩ := id hK
  have hC := CKL.of hRR hR hl
  have hfh := side2 (R := fun (y : Nat) (z : Nat × Nat) => vs[z.1]? = some (frA (f y)) ∧ vs[z.2]? = some (toA (f y))) (p := fun k => @decide (∃ a b : Nat, vs[a]? = some (frA (f k)) ∧ vs[b]? = some (toA (f k)) ∧ lim ≤ g (12 + lm g a (b - a))) (Classical.propDecidable _)) (p' := stays g lim) ks Pk hl (fun k y q => by
    obtain ⟨a, b, e1, e2, e3⟩ := hk k y q
    obtain ⟨a', b', k0, k1, k2, k3⟩ := hst y (List.mem_of_getElem? q)
    refine ⟨(a, b), e1, ⟨e2, e3⟩, k3.trans ?_⟩
    rw [vs_inj hvo.1 k1 e2, vs_inj hvo.1 k2 e3]; rfl)
  obtain ⟨V', g', G', r1, r2, r3, r4, r5, r6⟩ := sweepC (V := V) (lim := lim) (g0 := g) hl hv FU 0 V g V.2.1 (by omega) (by unfold FU; have := hW.2.1.1; omega) rfl hK (fun _ _ _ => rfl) (fun _ _ _ _ => rfl) rfl hC
  rw [hfh.1] at r1
  refine ⟨fun k => @decide (∃ a b : Nat, vs[a]? = some (frA (f k)) ∧ vs[b]? = some (toA (f k)) ∧ lim ≤ g (12 + lm g a (b - a))) (Classical.propDecidable _), nxV V x G', ?_, ?_, ?_, ?_, ?_, hst, ?_⟩
  · unfold dnX4_sweep
    rw [if_neg (Int32.not_lt.mpr hlim.1), if_pos hlim.2, q5, wi_ok q2 (by decide), bw_s]
    unfold dnX1_askAndDropBelow
    rw [hC.2.1, hl, show lpX1_askAndDropBelow_13 lim FU 0 0 (nI ks.length) V.2.1 = _ from r1, bp_s, bs_s]
    rfl
  · intro ku g1 f1 lk1 wn1 qu1 bu1 hJ
    exact hJ.1
  · intro ku k a b g1 f1 lk1 wn1 qu1 bu1 hJ hnb hku hab ha hb
    obtain ⟨⟨j1, j2, j3, j4, j5, j6, j7⟩, U, gh, hX, hKU, hLG⟩ := hJ
    have hbn := (List.getElem?_eq_some_iff.mp hb).1
    have hP := JS.ab hvo.1 hLG j6 hku ha hb
    have hgg := fun {p : Nat} (hp : p < vs.length) => JS.gh j1 j2 hLG hp
    obtain ⟨U', g', e4, hK', hL', hg'⟩ := hLG.ask hKU hab hbn (by
      rcases hnb with z | z
      · exact Or.inl (by rw [← hLG.2.2.1.1]; exact z)
      · exact Or.inr ((wc_cg _ (fun p hp => (hgg hp).2)).trans z))
    refine ⟨⟨j1, j2, j3, j4, j5, j6, j7⟩, U', g', ⟨U, a, b, _, hX, hP, e4⟩, hK', ?_⟩
    rw [show cl (Wg g1) (b + 1 - a) a 0 = cl (Wg gh) (b + 1 - a) a 0 from cl_cg _ _ _ (fun p q1 q2 => Wg_cg (hgg (by omega)).2.symm)]
    exact hL'
  · intro ku k a b g1 f1 f2 lk1 wn1 qu1 bu1 hJ hru hz hB hku hab ha hb
    obtain ⟨⟨j1, j2, j3, j4, j5, j6, j7⟩, U, gh, hX, hKU, hLG⟩ := hJ
    have hbn := (List.getElem?_eq_some_iff.mp hb).1
    have hP := JS.ab hvo.1 hLG j6 hku ha hb
    have hgg := fun {p : Nat} (hp : p < vs.length) => JS.gh j1 j2 hLG hp
    have hS1 : SO L ks f1 := ⟨hS.1, fun y hy => ⟨(hS.2 y hy).1, by rw [j6 y hy]; exact (hS.2 y hy).2⟩⟩
    have hBh : BLD Y vs L ca gh f1 f2 := ⟨hB.1, hB.2.1, hB.2.2.1, fun l p q1 q5 q2 => by
      have h0 : 0 < 2 ^ l := Nat.two_pow_pos l
      rw [hB.2.2.2 l p q1 q5 q2, lm_cg (g' := gh) _ (fun j k1 k2 => (hgg (show j < vs.length by omega)).1.symm)]⟩
    obtain ⟨U', g', e4, hK', hL', hg'⟩ := hLG.askB hKU hab hbn (by rw [← hLG.2.2.1.1]; exact hru) (fun z => hz ((wc_cg _ (fun p hp => (hgg hp).2.symm)).trans z)) j3 hS1 j4 hBh
    refine ⟨⟨hB.ng j1 n40, hB.nw n40, hB.vo j3, hB.2.2.1, hB.hc n40, fun y hy => by rw [hB.s j3 hS1 j4 hy]; exact j6 y hy, fun p hp => by unfold clrW; rw [if_neg (by omega)]; exact j7 p hp⟩, U', g', ⟨U, a, b, _, hX, hP, e4⟩, hK', ?_⟩
    rw [show cl (Wg (clrW g1)) (b + 1 - a) a 0 = cl (Wg (clrW gh)) (b + 1 - a) a 0 from cl_cg _ _ _ (fun p q1 q2 => Wg_cg (by unfold clrW; rw [if_pos (by omega), if_pos (by omega)]))]
    exact hL'
  · exact ⟨⟨h.1.1, h.1.2, hvo, hO, hHC, fun _ _ => rfl, fun _ _ => rfl⟩, V, g, rfl, hK, h⟩
  · intro g1 f1 lk1 wn1 qu1 bu1 hJ
    obtain ⟨⟨j1, j2, j3, j4, j5, j6, j7⟩, U, gh, hX, hKU, hLG⟩ := hJ
    refine ⟨?_, j3, ⟨List.Nodup.sublist List.filter_sublist hS.1, fun y hy => ?_⟩, j4⟩
    · obtain rfl := QX.inj _ _ _ r2 hX
      have h8 : (Pk.filter (stays g lim)).length ≤ 8 := Nat.le_trans (List.length_filter_le _ _) hR.1
      obtain ⟨hWn, hRn⟩ := WR.k hKU.1 hKU.2.1 (g' := krow gh (Pk.filter (stays g lim))) (fun k q1 q2 => krow_o q1 q2) r4 r5 (krow_k h8) r6 hv.fl
      rw [hfh.1] at hWn hRn
      refine ⟨krow gh (Pk.filter (stays g lim)), KK.nx q1 q2 q4 q5 hWn hRn, ?_⟩
      · obtain ⟨⟨h1, h2⟩, hc, ⟨i1, i2, i3, i4, i5, i6⟩, -, -, -, -⟩ := hLG
        refine ⟨⟨fun p v hp => ?_, fun p v hp => ?_⟩, fun l p q1 q5 q2 => ?_, ⟨?_, ?_, ?_, ?_, ?_, ?_⟩, krow_k h8, hfh.1, hv.fl, fun k y q => ?_⟩
        · have := (List.getElem?_eq_some_iff.mp hp).1
          rw [krow_o (by omega) (by omega)]; exact h1 p v hp
        · have := (List.getElem?_eq_some_iff.mp hp).1
          rw [krow_o (by omega) (by omega)]; exact h2 p v hp
        · have h0 : 0 < 2 ^ l := Nat.two_pow_pos l
          rw [krow_o (by omega) (by omega)]; exact hc l p q1 q5 q2
        · rw [krow_o (by decide) (by decide)]; exact i1
        · rw [krow_o (by decide) (by decide)]; exact i2
        · rw [krow_o (by decide) (by decide)]; exact i3
        · rw [krow_o (by decide) (by decide)]; exact i4
        · rw [krow_o (by decide) (by decide)]; exact i5
        · rw [krow_o (by decide) (by decide)]; exact i6
        · obtain ⟨z, z1, z2, z3⟩ := hfh.2 k y q
          have hyk : y ∈ ks := (List.mem_filter.mp (List.mem_of_getElem? q)).1
          rw [j6 y hyk]
          exact ⟨z.1, z.2, z1, z2, z3⟩
    · have hyk : y ∈ ks := (List.mem_filter.mp hy).1
      exact ⟨(hS.2 y hyk).1, by rw [j6 y hyk]; exact (hS.2 y hyk).2⟩
