/-! the class reads the law's text: the pieces -/
def bt (S : List Nat) (q : Nat) : Int32 := if q < S.length then nI (S.getD q 0) else -1
def AtT (S : List Nat) (D : gF) : Prop := D 0 5 = nI S.length ∧ D 0 3 = 0 ∧ D 0 4 = -1 ∧ ∀ j : Nat, j < S.length → D 1 j = nI (S.getD j 0)
def At (S : List Nat) (q : Nat) (D : gF) : Prop := AtT S D ∧ D 0 6 = nI q
theorem dr_c {S : List Nat} {q c : Nat} {r : List Nat} (h : S.drop q = c :: r) : q < S.length ∧ S.getD q 0 = c ∧ S.drop (q + 1) = r := by
  have hq : q < S.length := by
    rcases Nat.lt_or_ge q S.length with z | z
    · exact z
    · rw [List.drop_eq_nil_of_le z] at h; cases h
  rw [List.drop_eq_getElem_cons hq] at h
  obtain ⟨h1, h2⟩ := List.cons.inj h
  exact ⟨hq, by rw [gD_i hq]; exact h1, h2⟩
theorem dr_a {S : List Nat} : ∀ (ds r : List Nat) (q : Nat), S.drop q = ds ++ r → S.drop (q + ds.length) = r := by
  intro ds
  induction ds with
  | nil => intro r q h; exact h
  | cons c ds ih =>
    intro r q h
    have := ih r (q + 1) (dr_c (show S.drop q = c :: (ds ++ r) from h)).2.2
    rw [List.length_cons, show q + (ds.length + 1) = q + 1 + ds.length by omega]
    exact this
theorem bt_c {S : List Nat} {q c : Nat} {r : List Nat} (h : S.drop q = c :: r) : bt S q = nI c := by
  unfold bt
  rw [if_pos (dr_c h).1, (dr_c h).2.1]
theorem bt_n {S : List Nat} {q : Nat} (h : S.drop q = []) : bt S q = -1 := by
  unfold bt
  have := List.drop_eq_nil_iff.mp h
  rw [if_neg (by omega)]
theorem byteD {S : List Nat} {q : Nat} {D : gD} (h : AtT S D.1) (hl : S.length ≤ 140) (hq : q < 1000) : dnX2_byteAt D (nI q) = some (bt S q) := by
  unfold dnX2_byteAt bt
  rw [if_neg (nI_pos (by omega)), h.1]
  by_cases c : q < S.length
  · rw [if_neg (nI_ge c (by omega)), if_neg (show ¬ (500 : Int32) ≤ nI q from nI_ge (b := 500) (by omega) (by decide)), ra_ok (by omega) (by decide), if_pos c, h.2.2.2 q c]
  · rw [if_pos (nI_le (by omega) (by omega)), if_neg c]
theorem AtT.w {S : List Nat} {D : gF} (h : AtT S D) {k : Nat} {v : Int32} (h3 : k ≠ 3) (h4 : k ≠ 4) (h5 : k ≠ 5) : AtT S (wr D 0 k v) := ⟨by rw [wr_o (fun e => h5 e.symm)]; exact h.1, by rw [wr_o (fun e => h3 e.symm)]; exact h.2.1, by rw [wr_o (fun e => h4 e.symm)]; exact h.2.2.1, by rw [wr_b (by decide)]; exact h.2.2.2⟩
theorem AtT.p {S : List Nat} {q : Nat} {D : gF} (h : AtT S D) : At S q (wr D 0 6 (nI q)) := ⟨h.w (by decide) (by decide) (by decide), wr_i ..⟩
theorem At.w {S : List Nat} {q : Nat} {D : gF} (h : At S q D) {k : Nat} {v : Int32} (h6 : 6 < k) : At S q (wr D 0 k v) := ⟨h.1.w (by omega) (by omega) (by omega), by rw [wr_o (by omega)]; exact h.2⟩
/-- blanks are gone over: from e to q -/
def GT (S : List Nat) (e q : Nat) : Prop := e ≤ S.length ∧ ((q = e ∧ (S.drop e = [] ∨ ∃ (c : Nat) (r : List Nat), S.drop e = c :: r ∧ c < 128 ∧ c ≠ 32)) ∨ (q = e + 1 ∧ ∃ (c : Nat) (r : List Nat), S.drop e = 32 :: c :: r ∧ c < 128 ∧ c ≠ 32))
theorem gt_e {S : List Nat} {e c : Nat} {r : List Nat} (h : S.drop e = c :: r) (h1 : c < 128) (h2 : c ≠ 32) : GT S e e := ⟨Nat.le_of_lt (dr_c h).1, Or.inl ⟨rfl, Or.inr ⟨c, r, h, h1, h2⟩⟩⟩
theorem gt_b {S : List Nat} {e c : Nat} {r : List Nat} (h : S.drop e = 32 :: c :: r) (h1 : c < 128) (h2 : c ≠ 32) : GT S e (e + 1) := ⟨Nat.le_of_lt (dr_c h).1, Or.inr ⟨rfl, c, r, h, h1, h2⟩⟩
theorem go_stop {S : List Nat} {q N : Nat} {D : gD} (h : At S q D.1) (hl : S.length ≤ 140) (hq : q ≤ S.length) (hs : S.drop q = [] ∨ ∃ (c : Nat) (r : List Nat), S.drop q = c :: r ∧ c < 128 ∧ c ≠ 32) : lpX2_goTo_5 (N + 1) D = some (0, D) := by
  conv => lhs; unfold lpX2_goTo_5
  rw [h.1.1, h.2]
  rcases hs with hs | ⟨c, r, hs, h1, h2⟩
  · rw [if_pos (nI_le (List.drop_eq_nil_iff.mp hs) (by omega))]
  · have hd := dr_c hs
    rw [if_neg (nI_ge hd.1 (by omega)), byteD h.1 hl (by omega), bp_s, bt_c hs, if_neg (show ¬ nI c = (32 : Int32) from fun z => h2 ((nI_eq (b := 32) (by omega) (by decide)).mp z))]
theorem go_step {S : List Nat} {q N : Nat} {D : gD} {r : List Nat} (h : At S q D.1) (hl : S.length ≤ 140) (hs : S.drop q = 32 :: r) : lpX2_goTo_5 (N + 1) D = lpX2_goTo_5 N (wr D.1 0 6 (nI (q + 1)), D.2) := by
  have hd := dr_c hs
  conv => lhs; unfold lpX2_goTo_5
  rw [h.1.1, h.2, if_neg (nI_ge hd.1 (by omega)), byteD h.1 hl (by omega), bp_s, bt_c hs, if_pos (show nI 32 = 32 from rfl), bw_s, nI_1]
theorem goT {S : List Nat} {e q : Nat} {D : gD} (h : AtT S D.1) (hl : S.length ≤ 140) (hg : GT S e q) : dnX2_goTo D (nI e) = some (wr D.1 0 6 (nI q), D.2) := by
  obtain ⟨he, hg⟩ := hg
  have h0 : At S e ((wr D.1 0 6 (nI e), D.2) : gD).1 := h.p
  unfold dnX2_goTo
  rw [bw_s]
  rcases hg with ⟨rfl, hs⟩ | ⟨rfl, c, r, hs, h1, h2⟩
  · rw [show FU = FU - 1 + 1 from rfl, go_stop h0 hl he hs, bp_s]
  · have hd := dr_c hs
    have h1' : At S (e + 1) ((wr (wr D.1 0 6 (nI e)) 0 6 (nI (e + 1)), D.2) : gD).1 := h0.1.p
    rw [show FU = FU - 2 + 1 + 1 from rfl, go_step h0 hl hs, go_stop h1' hl (by omega) (Or.inr ⟨c, r, hd.2.2, h1, h2⟩), bp_s]
    show some (wr (wr D.1 0 6 (nI e)) 0 6 (nI (e + 1)), D.2) = _
    rw [wr_wr]
theorem isD_y {c : Nat} (h1 : 48 ≤ c) (h2 : c ≤ 57) : dnX2_isDigit (nI c) = some 1 := by
  unfold dnX2_isDigit
  rw [if_neg (show ¬ nI c < (48 : Int32) from nI_nlt (b := 48) h1 (by omega)), if_neg (show ¬ (57 : Int32) < nI c from nI_nlt (b := c) (a := 57) h2 (by omega))]
theorem isD_n {c : Nat} (h1 : c < 48 ∨ 57 < c) (h2 : c < 128) : dnX2_isDigit (nI c) = some 0 := by
  unfold dnX2_isDigit
  by_cases e : c < 48
  · rw [if_pos (show nI c < (48 : Int32) from nI_lt (b := 48) e (by decide))]
  · rw [if_neg (show ¬ nI c < (48 : Int32) from nI_nlt (b := 48) (by omega) (by omega)), if_pos (show (57 : Int32) < nI c from nI_lt (a := 57) (by omega) (by omega))]
def ND (r : List Nat) : Prop := r = [] ∨ ∃ (c : Nat) (r' : List Nat), r = c :: r' ∧ (c < 48 ∨ 57 < c) ∧ c < 128
theorem nd_bt {S : List Nat} {q : Nat} {r : List Nat} (h : S.drop q = r) (hn : ND r) : dnX2_isDigit (bt S q) = some 0 := by
  rcases hn with rfl | ⟨c, r', rfl, h1, h2⟩
  · rw [bt_n h]; rfl
  · rw [bt_c h]; exact isD_n h1 h2
def dval (a : Nat) : List Nat → Nat
  | [] => a
  | c :: r => dval (10 * a + (c - 48)) r
theorem dval_le : ∀ (ds : List Nat) (a : Nat), a ≤ dval a ds := by
  intro ds
  induction ds with
  | nil => intro a; exact Nat.le_refl _
  | cons c r ih => intro a; exact Nat.le_trans (by omega) (ih (10 * a + (c - 48)))
theorem dig_v {r t : Nat} (ht : 48 ≤ t) : ((10 * nI r) + nI t) - 48 = nI (10 * r + (t - 48)) := by
  rw [show (10 : Int32) = nI 10 from rfl, nI_mul, nI_add, show (48 : Int32) = nI 48 from rfl, nI_sub (by omega)]
  congr 1; omega
theorem digs {S : List Nat} {lo hi : Int32} {G : gR} {D : gF} (h : AtT S D) (hl : S.length ≤ 140) : ∀ (ds : List Nat) (N q a : Nat) (r : List Nat), (∀ c ∈ ds, 48 ≤ c ∧ c ≤ 57) → S.drop q = ds ++ r → ND r → dval a ds ≤ 999 → ds.length < N → q ≤ S.length → lpX2_readNumber_43 lo hi N (nI q) (wr D 0 7 (nI a), G) = some (0, nI (q + ds.length), (wr D 0 7 (nI (dval a ds)), G)) := by
  intro ds
  induction ds with
  | nil =>
    intro N q a r _ hd hn _ hN hq
    obtain ⟨M, rfl⟩ : ∃ M, N = M + 1 := ⟨N - 1, by omega⟩
    have hA : AtT S ((wr D 0 7 (nI a), G) : gD).1 := h.w (by decide) (by decide) (by decide)
    unfold lpX2_readNumber_43
    rw [hA.1]
    by_cases c : S.length ≤ q
    · rw [if_pos (nI_le c (by omega))]; rfl
    · rw [if_neg (nI_ge (by omega) (by omega)), byteD hA hl (by omega), bp_s, nd_bt hd hn, bp_s, if_pos rfl]; rfl
  | cons c ds ih =>
    intro N q a r hc hd hn hv hN hq
    obtain ⟨M, rfl⟩ : ∃ M, N = M + 1 := ⟨N - 1, by omega⟩
    have hA : AtT S ((wr D 0 7 (nI a), G) : gD).1 := h.w (by decide) (by decide) (by decide)
    have hcd := hc c List.mem_cons_self
    have hd0 : S.drop q = c :: (ds ++ r) := hd
    have hd' := dr_c hd0
    have hv' : dval (10 * a + (c - 48)) ds ≤ 999 := hv
    have hle := dval_le ds (10 * a + (c - 48))
    unfold lpX2_readNumber_43
    rw [hA.1, if_neg (nI_ge hd'.1 (by omega)), byteD hA hl (by omega), bp_s, bt_c hd0, isD_y hcd.1 hcd.2, bp_s, if_neg (show ¬ (1 : Int32) = 0 by decide), bp_s, show ((wr D 0 7 (nI a), G) : gD).1 0 7 = nI a from (show (wr D 0 7 (nI a)) 0 7 = nI a from wr_i ..), dig_v hcd.1, if_neg (show ¬ (1000 : Int32) < nI (10 * a + (c - 48)) from nI_nlt (b := 10 * a + (c - 48)) (a := 1000) (by omega) (by decide)), bw_s, show wr ((wr D 0 7 (nI a), G) : gD).1 0 7 (nI (10 * a + (c - 48))) = wr D 0 7 (nI (10 * a + (c - 48))) from wr_wr .., nI_1]
    have e := ih M (q + 1) (10 * a + (c - 48)) r (fun x hx => hc x (List.mem_cons_of_mem _ hx)) hd'.2.2 hn hv' (by simp only [List.length_cons] at hN; omega) (by omega)
    rw [show q + 1 + ds.length = q + (c :: ds).length by simp only [List.length_cons]; omega] at e
    exact e
theorem numD {S : List Nat} {q q' v : Nat} {lo hi : Int32} {D : gD} {ds r : List Nat} (h : At S q D.1) (hl : S.length ≤ 140) (hne : ds ≠ []) (hc : ∀ c ∈ ds, 48 ≤ c ∧ c ≤ 57) (hd : S.drop q = ds ++ r) (hn : ND r) (hv : dval 0 ds = v) (hv9 : v ≤ 999) (hg : GT S (q + ds.length) q') (h1 : lo ≤ nI v) (h2 : nI v ≤ hi) : ∃ D' : gF, dnX2_readNumber D lo hi = some (1, (D', D.2)) ∧ At S q' D' ∧ D' 0 7 = nI v ∧ ∀ k : Nat, k ≠ 6 → k ≠ 7 → k ≠ 8 → D' 0 k = D.1 0 k := by
  have hl0 : ds.length ≤ 140 := by
    have := hg.1; omega
  obtain ⟨c, ds', rfl⟩ := List.exists_cons_of_ne_nil hne
  have hd0 : S.drop q = c :: (ds' ++ r) := hd
  have hcd := hc c List.mem_cons_self
  have hT : AtT S (wr D.1 0 8 (nI q)) := h.1.w (by decide) (by decide) (by decide)
  have e43 := digs (G := D.2) (lo := lo) (hi := hi) hT hl (c :: ds') FU q 0 r hc hd hn (by omega) (by unfold FU; omega) (Nat.le_of_lt (dr_c hd0).1)
  rw [hv] at e43
  have hT2 : AtT S ((wr (wr D.1 0 8 (nI q)) 0 7 (nI v), D.2) : gD).1 := hT.w (by decide) (by decide) (by decide)
  have eg := goT hT2 hl hg
  have e7 : (wr (wr (wr D.1 0 8 (nI q)) 0 7 (nI v)) 0 6 (nI q')) 0 7 = nI v := by rw [wr_o (by decide), wr_i]
  refine ⟨wr (wr (wr D.1 0 8 (nI q)) 0 7 (nI v)) 0 6 (nI q'), ?_, hT2.p, e7, fun k k6 k7 k8 => by rw [wr_o k6, wr_o k7, wr_o k8]⟩
  unfold dnX2_readNumber
  rw [h.2, byteD h.1 hl (by have := (dr_c hd0).1; omega), bp_s, bt_c hd0, isD_y hcd.1 hcd.2, bp_s, if_neg (show ¬ (1 : Int32) = 0 by decide), bw_s, bw_s, show (wr (wr D.1 0 8 (nI q)) 0 7 0) 0 6 = nI q from by rw [wr_o (by decide), wr_o (by decide)]; exact h.2, show lpX2_readNumber_43 lo hi FU (nI q) (wr (wr D.1 0 8 (nI q)) 0 7 0, D.2) = _ from e43, bp_s]
  show bp (dnX2_goTo (wr (wr D.1 0 8 (nI q)) 0 7 (nI v), D.2) (nI (q + (c :: ds').length))) _ = _
  rw [eg, bp_s]
  show (if (wr (wr (wr D.1 0 8 (nI q)) 0 7 (nI v)) 0 6 (nI q')) 0 7 < lo then _ else if (wr (wr (wr D.1 0 8 (nI q)) 0 7 (nI v)) 0 6 (nI q')) 0 7 ≤ hi then _ else _) = _
  rw [e7, if_neg (Int32.not_lt.mpr h1), if_pos h2]
theorem dec_ok {v : Nat} (h : v < 100) : dec v ≠ [] ∧ (∀ c ∈ dec v, 48 ≤ c ∧ c ≤ 57) ∧ dval 0 (dec v) = v ∧ (dec v).length ≤ 2 ∧ ∃ (c : Nat) (r : List Nat), dec v = c :: r ∧ 48 ≤ c ∧ c ≤ 57 := by
  unfold dec
  by_cases e : v < 10
  · rw [if_pos e]
    refine ⟨by simp, fun c hc => ?_, ?_, by simp, 48 + v, [], rfl, by omega, by omega⟩
    · rw [List.mem_singleton] at hc; omega
    · show 10 * 0 + (48 + v - 48) = v; omega
  · rw [if_neg e]
    refine ⟨by simp, fun c hc => ?_, ?_, by simp, 48 + v / 10, [48 + v % 10], rfl, by omega, by omega⟩
    · rcases List.mem_cons.mp hc with rfl | hc
      · omega
      · rw [List.mem_singleton] at hc; omega
    · show 10 * (10 * 0 + (48 + v / 10 - 48)) + (48 + v % 10 - 48) = v; omega
theorem decD {S : List Nat} {q q' v : Nat} {lo hi : Int32} {D : gD} {r : List Nat} (h : At S q D.1) (hl : S.length ≤ 140) (hv : v < 100) (hd : S.drop q = dec v ++ r) (hn : ND r) (hg : GT S (q + (dec v).length) q') (h1 : lo ≤ nI v) (h2 : nI v ≤ hi) : ∃ D' : gF, dnX2_readNumber D lo hi = some (1, (D', D.2)) ∧ At S q' D' ∧ D' 0 7 = nI v ∧ ∀ k : Nat, k ≠ 6 → k ≠ 7 → k ≠ 8 → D' 0 k = D.1 0 k := by
  obtain ⟨k1, k2, k3, -⟩ := dec_ok hv
  exact numD h hl k1 k2 hd hn k3 (by omega) hg h1 h2
theorem nextD {S : List Nat} {q c : Nat} {D : gD} {r : List Nat} {x : Int32} (h : At S q D.1) (hl : S.length ≤ 140) (hd : S.drop q = c :: r) : dnX2_isNext D x = some (if nI c = x then 1 else 0) := by
  unfold dnX2_isNext
  rw [h.2, byteD h.1 hl (by have := (dr_c hd).1; omega), bp_s, bt_c hd]
  split <;> rfl
theorem signY {S : List Nat} {q q' c : Nat} {D : gD} {r : List Nat} {x : Int32} (h : At S q D.1) (hl : S.length ≤ 140) (hd : S.drop q = c :: r) (hx : nI c = x) (hg : GT S (q + 1) q') : dnX2_hasSign D x = some (1, (wr D.1 0 6 (nI q'), D.2)) := by
  unfold dnX2_hasSign
  rw [nextD h hl hd, if_pos hx, bp_s, if_neg (show ¬ (1 : Int32) = 0 by decide), h.2, nI_1, goT h.1 hl hg, bp_s]
theorem signN {S : List Nat} {q c : Nat} {D : gD} {r : List Nat} {x : Int32} (h : At S q D.1) (hl : S.length ≤ 140) (hd : S.drop q = c :: r) (hx : ¬ nI c = x) : dnX2_hasSign D x = some (0, D) := by
  unfold dnX2_hasSign
  rw [nextD h hl hd, if_neg hx, bp_s, if_pos rfl]
/-- row -/
theorem wstep {S : List Nat} {D : gD} {k N : Nat} (h : At S 0 D.1) (hl : S.length ≤ 140) (hk : k < 3) (hb : bt S k = sCh 0 (nI k)) : lpX2_hasWord_7 D 0 (nI 3) (N + 1) (nI k) = lpX2_hasWord_7 D 0 (nI 3) N (nI (k + 1)) := by
  conv => lhs; unfold lpX2_hasWord_7
  rw [if_neg (nI_ge hk (by decide)), h.2, nI_add, Nat.zero_add, byteD h.1 hl (by omega), bp_s]
  unfold sc
  rw [if_neg (show ¬ (nI k < 0 ∨ sLen.getD 0 0 ≤ (nI k).toNatClampNeg) from by
    rw [nI_clamp (by omega)]
    rintro (z | z)
    · exact nI_pos (by omega) z
    · exact absurd (show 3 ≤ k from z) (by omega))]
  show (if bt S k = sCh 0 (nI k) then lpX2_hasWord_7 D 0 (nI 3) N (nI k + 1) else some 0) = _
  rw [if_pos hb, nI_1]
theorem rowD {S : List Nat} {D : gD} {q : Nat} {r : List Nat} (h : At S 0 D.1) (hl : S.length ≤ 140) (hd : S.drop 0 = 114 :: 111 :: 119 :: 32 :: r) (hg : GT S 3 q) : dnX2_hasWord D 0 = some (1, (wr D.1 0 6 (nI q), D.2)) := by
  have d1 := (dr_c hd).2.2
  have d2 := (dr_c d1).2.2
  have d3 : S.drop 3 = 32 :: r := (dr_c d2).2.2
  have e7 : lpX2_hasWord_7 D 0 (nI 3) FU 0 = some 1 := by
    rw [show FU = FU - 4 + 1 + 1 + 1 + 1 from rfl, show (0 : Int32) = nI 0 from rfl, wstep h hl (by decide) (by rw [bt_c hd]; rfl), wstep h hl (by decide) (by rw [bt_c d1]; rfl), wstep h hl (by decide) (by rw [bt_c d2]; rfl)]
    unfold lpX2_hasWord_7
    rw [if_pos (Int32.le_refl _)]
  unfold dnX2_hasWord
  rw [show nI (sLen.getD 0 0) = nI 3 from rfl, e7, bp_s, if_neg (show ¬ (1 : Nat) = 0 by decide), h.2, nI_add, Nat.zero_add, byteD h.1 hl (by decide), bp_s, bt_c d3, show dnX2_isLetter (nI 32) = some 0 from rfl, bp_s, if_pos rfl, goT h.1 hl hg, bp_s]
