/-! the class reads the law's text: the rule, the values, all of load -/
/-- the number of a draw, its letters -/
def num (k : Nat) : Int32 := nI k - 20
def vtxt (k : Nat) : List Nat := if k < 20 then 45 :: dec (20 - k) else dec (k - 20)
def Wt : List Nat → List Nat
  | [] => [59]
  | k :: ks => 32 :: (vtxt k ++ Wt ks)
def txt (R M : Nat) (ks : List Nat) : List Nat := 114 :: 111 :: 119 :: 32 :: (dec R ++ (32 :: (dec M ++ (58 :: Wt ks))))
theorem num_b : ∀ k : Nat, k < 41 → (-999 ≤ num k ∧ num k ≤ 999) ∧ (k < 20 → -(nI (20 - k)) = num k) ∧ (20 ≤ k → nI (k - 20) = num k) ∧ (k < 20 → nI (20 - k) ≤ 999) ∧ (20 ≤ k → nI (k - 20) ≤ 999) := by decide +kernel
theorem ND_Wt (ks : List Nat) : ND (Wt ks) := by
  cases ks with
  | nil => exact Or.inr ⟨59, [], rfl, by decide, by decide⟩
  | cons k ks => exact Or.inr ⟨32, _, rfl, by decide, by decide⟩
theorem vt_h {k : Nat} (hk : k < 41) : ∃ (c : Nat) (r : List Nat), vtxt k = c :: r ∧ c < 128 ∧ c ≠ 32 ∧ c ≠ 59 := by
  unfold vtxt
  by_cases e : k < 20
  · rw [if_pos e]; exact ⟨45, _, rfl, by decide, by decide, by decide⟩
  · rw [if_neg e]
    obtain ⟨-, -, -, -, c, r, h1, h2, h3⟩ := dec_ok (show k - 20 < 100 by omega)
    exact ⟨c, r, h1, by omega, by omega, by omega⟩
theorem vt_len {k : Nat} (hk : k < 41) : (vtxt k).length ≤ 3 := by
  unfold vtxt
  by_cases e : k < 20
  · rw [if_pos e]
    obtain ⟨-, -, -, h, -⟩ := dec_ok (show 20 - k < 100 by omega)
    rw [List.length_cons]; omega
  · rw [if_neg e]
    obtain ⟨-, -, -, h, -⟩ := dec_ok (show k - 20 < 100 by omega)
    omega
theorem valueD {S : List Nat} {q q' k : Nat} {D : gD} {r : List Nat} (h : At S q D.1) (hl : S.length ≤ 140) (hk : k < 41) (hd : S.drop q = vtxt k ++ r) (hn : ND r) (hg : GT S (q + (vtxt k).length) q') : ∃ D' : gF, dnX2_readValue D = some (1, (D', D.2)) ∧ At S q' D' ∧ D' 0 7 = num k := by
  obtain ⟨-, b1, b2, b3, b4⟩ := num_b k hk
  unfold dnX2_readValue
  by_cases e : k < 20
  · have ev : vtxt k = 45 :: dec (20 - k) := by unfold vtxt; rw [if_pos e]
    rw [ev] at hd hg
    obtain ⟨-, -, -, -, c, r', h1, h2, h3⟩ := dec_ok (show 20 - k < 100 by omega)
    have hd1 : S.drop (q + 1) = dec (20 - k) ++ r := (dr_c (show S.drop q = 45 :: (dec (20 - k) ++ r) from hd)).2.2
    have hd2 : S.drop (q + 1) = c :: (r' ++ r) := by rw [hd1, h1]; rfl
    have hg1 : GT S (q + 1) (q + 1) := gt_e hd2 (by omega) (by omega)
    have hA : At S (q + 1) ((wr D.1 0 6 (nI (q + 1)), D.2) : gD).1 := h.1.p
    rw [List.length_cons, show q + ((dec (20 - k)).length + 1) = q + 1 + (dec (20 - k)).length by omega] at hg
    obtain ⟨D', a1, a2, a3, -⟩ := decD (lo := 0) (hi := 999) hA hl (by omega) hd1 hn hg (nI_pos' (by omega)) (b3 e)
    refine ⟨wr D' 0 7 (num k), ?_, a2.w (by decide), wr_i ..⟩
    rw [signY (x := 45) h hl (show S.drop q = 45 :: (dec (20 - k) ++ r) from hd) rfl hg1, bs_s, a1, bs_s, if_neg (show ¬ (1 : Int32) = 0 by decide), if_neg (show ¬ (1 : Int32) = 0 by decide), show ((D', ((wr D.1 0 6 (nI (q + 1)), D.2) : gD).2) : gD).1 0 7 = nI (20 - k) from a3, b1 e, bw_s]
  · have ev : vtxt k = dec (k - 20) := by unfold vtxt; rw [if_neg e]
    rw [ev] at hd hg
    obtain ⟨-, -, -, -, c, r', h1, h2, h3⟩ := dec_ok (show k - 20 < 100 by omega)
    have hd2 : S.drop q = c :: (r' ++ r) := by rw [hd, h1]; rfl
    obtain ⟨D', a1, a2, a3, -⟩ := decD (lo := 0) (hi := 999) h hl (by omega) hd hn hg (nI_pos' (by omega)) (b4 (by omega))
    refine ⟨wr D' 0 7 (num k), ?_, a2.w (by decide), wr_i ..⟩
    rw [signN (x := 45) h hl hd2 (show ¬ nI c = (45 : Int32) from fun z => by have := (nI_eq (b := 45) (by omega) (by decide)).mp z; omega), bs_s, a1, bs_s, if_neg (show ¬ (1 : Int32) = 0 by decide), if_pos rfl, show ((D', D.2) : gD).1 0 7 = nI (k - 20) from a3, b2 (by omega), bw_s]
/-! the row that is read, before all is built -/
def V0 (g : Nat → Int32) (n : Nat) : Prop := (n ≤ 40 ∧ g 0 = nI n) ∧ g 6 = nI 0 ∧ (g 1 = 0 ∨ g 1 = 1 ∨ g 1 = 2) ∧ (∃ m : Nat, 1 ≤ m ∧ m ≤ 8 ∧ g 2 = nI m) ∧ (∀ p : Nat, p < n → -999 ≤ g (12 + p) ∧ g (12 + p) ≤ 999)
theorem V0.w0 {g : Nat → Int32} {n : Nat} (h : V0 g n) (h1 : 1 ≤ n) : W0 g n 0 := ⟨⟨h1, h.1.1, h.1.2⟩, ⟨by decide, h.2.1⟩, h.2.2.1, h.2.2.2.1, fun k hk => by omega, h.2.2.2.2⟩
def sG (G : gR) (a b : Int32) : gR := wR (wR (wR (wR (wR (wL (wR (wR (wR G 0 3 0) 0 4 a) 0 5 b) 0) 0 7 0) 0 8 0) 0 9 0) 0 10 0) 3 2 0
theorem sG_e (G : gR) (a b : Int32) : dnX1_start G a b = some (sG G a b) := rfl
theorem rule_em {m : Nat} (h : m ≤ 2) : nI m = 0 ∨ nI m = 1 ∨ nI m = 2 := by
  match m, h with
  | 0, _ => exact Or.inl rfl
  | 1, _ => exact Or.inr (Or.inl rfl)
  | 2, _ => exact Or.inr (Or.inr rfl)
theorem z12 (a b : Int32) {k : Nat} (h1 : k ≠ 1) (h2 : k ≠ 2) : upd (upd (fun _ => (0 : Int32)) 1 a) 2 b k = 0 := by
  simp only [upd]; rw [if_neg h2, if_neg h1]
theorem z1 (a b : Int32) : upd (upd (fun _ => (0 : Int32)) 1 a) 2 b 1 = a := by simp [upd]
theorem z2 (a b : Int32) : upd (upd (fun _ => (0 : Int32)) 1 a) 2 b 2 = b := by simp [upd]
theorem V0s {m m' : Nat} (h : m ≤ 2) (h1 : 1 ≤ m') (h8 : m' ≤ 8) : V0 (upd (upd (fun _ => 0) 1 (nI m)) 2 (nI m')) 0 :=
  ⟨⟨by decide, z12 _ _ (by decide) (by decide)⟩, z12 _ _ (by decide) (by decide), by rw [z1]; exact rule_em h, ⟨m', h1, h8, z2 _ _⟩, fun p hp => by omega⟩
theorem R0s (G : gR) (a b : Int32) : R0 (sG G a b) (upd (upd (fun _ => 0) 1 a) 2 b) 0 0 := by
  refine ⟨⟨?_, ?_, ?_, ?_, ?_, ?_, ?_, ?_⟩, fun p hp => by omega, fun k hk => by omega⟩
  · rw [z12 _ _ (by decide) (by decide)]; simp [sG, wR, wL, wr, upd]
  · rw [z1]; simp [sG, wR, wL, wr, upd]
  · rw [z2]; simp [sG, wR, wL, wr, upd]
  · rw [z12 _ _ (by decide) (by decide)]; simp [sG, wR, wL, wr, upd]
  · rw [z12 _ _ (by decide) (by decide)]; simp [sG, wR, wL, wr, upd]
  · rw [z12 _ _ (by decide) (by decide)]; simp [sG, wR, wL, wr, upd]
  · rw [z12 _ _ (by decide) (by decide)]; simp [sG, wR, wL, wr, upd]
  · rw [z12 _ _ (by decide) (by decide)]; simp [sG, wR, wL, wr, upd]
theorem add_d {n : Nat} {G : gR} {g : Nat → Int32} {v : Int32} (h : V0 g n) (hR : R0 G g n 0) (hn : n < 40) (h1 : -999 ≤ v) (h2 : v ≤ 999) : ∃ (G' : gR) (g' : Nat → Int32), dnX1_addAtEnd G v = some G' ∧ V0 g' (n + 1) ∧ R0 G' g' (n + 1) 0 ∧ g' (12 + n) = v ∧ ∀ k : Nat, k ≠ 0 → k ≠ 12 + n → g' k = g k := by
  obtain ⟨⟨n40, h0⟩, h6, hr, hm, hv⟩ := h
  obtain ⟨⟨s0, s1, s2, s7, s8, s9, s10, s6⟩, hV, -⟩ := hR
  have ek : ∀ k : Nat, k ≠ 0 → k ≠ 12 + n → upd (upd g (12 + n) v) 0 (nI (n + 1)) k = g k := fun k k0 k1 => by simp only [upd]; rw [if_neg k0, if_neg k1]
  have ev : upd (upd g (12 + n) v) 0 (nI (n + 1)) (12 + n) = v := by simp only [upd]; rw [if_neg (by omega), if_pos trivial]
  have e0 : upd (upd g (12 + n) v) 0 (nI (n + 1)) 0 = nI (n + 1) := by simp [upd]
  refine ⟨wR (wR G 1 n v) 0 3 (nI (n + 1)), upd (upd g (12 + n) v) 0 (nI (n + 1)), ?_, ⟨⟨by omega, e0⟩, by rw [ek 6 (by decide) (by omega)]; exact h6, by rw [ek 1 (by decide) (by omega)]; exact hr, by rw [ek 2 (by decide) (by omega)]; exact hm, fun p hp => ?_⟩, ⟨⟨?_, ?_, ?_, ?_, ?_, ?_, ?_, ?_⟩, fun p hp => ?_, fun k hk => by omega⟩, ev, ek⟩
  · unfold dnX1_addAtEnd
    rw [s0, h0, storeC hn, bp_s, show (wR G 1 n v).1 0 3 = nI n from s0.trans h0, nI_1, bw_s]
  · by_cases e : p = n
    · rw [e, ev]; exact ⟨h1, h2⟩
    · rw [ek _ (by omega) (by omega)]; exact hv p (by omega)
  · rw [e0]; simp [wR, wr, upd]
  · rw [ek 1 (by decide) (by omega)]; exact s1
  · rw [ek 2 (by decide) (by omega)]; exact s2
  · rw [ek 7 (by decide) (by omega)]; exact s7
  · rw [ek 8 (by decide) (by omega)]; exact s8
  · rw [ek 9 (by decide) (by omega)]; exact s9
  · rw [ek 10 (by decide) (by omega)]; exact s10
  · rw [ek 6 (by decide) (by omega)]; exact s6
  · by_cases e : p = n
    · rw [e, ev]; simp [wR, wr, upd]
    · rw [ek _ (by omega) (by omega)]
      have : (wR (wR G 1 n v) 0 3 (nI (n + 1))).1 1 p = G.1 1 p := by simp [wR, wr, upd, e]
      rw [this]; exact hV p (by omega)
/-- where the reader stands ahead of the values that are left -/
def PW (S ks : List Nat) (q : Nat) : Prop := S.drop q = (match ks with | [] => [59] | k :: ks => vtxt k ++ Wt ks)
theorem pw_of {S ks : List Nat} {e : Nat} (h : S.drop e = Wt ks) (hk : ∀ k ∈ ks, k < 41) : ∃ q : Nat, GT S e q ∧ PW S ks q := by
  cases ks with
  | nil => exact ⟨e, gt_e (show S.drop e = 59 :: [] from h) (by decide) (by decide), h⟩
  | cons k ks =>
    obtain ⟨c, r, h1, h2, h3, -⟩ := vt_h (hk k List.mem_cons_self)
    have h' : S.drop e = 32 :: (vtxt k ++ Wt ks) := h
    refine ⟨e + 1, gt_b (show S.drop e = 32 :: c :: (r ++ Wt ks) from by rw [h', h1]; rfl) h2 h3, (dr_c h').2.2⟩
theorem valsD {S : List Nat} (hl : S.length ≤ 140) : ∀ (ks : List Nat) (N n q : Nat) (D : gF) (G : gR) (g : Nat → Int32), (∀ k ∈ ks, k < 41) → n + ks.length < 40 → ks.length < N → At S q D → PW S ks q → V0 g n → R0 G g n 0 → (1 ≤ n ∨ ks ≠ []) → ∃ (q' : Nat) (D' : gF) (G' : gR) (g' : Nat → Int32), lpX2_readValues_2 N (nI n) (D, G) = some (1, (D', G')) ∧ At S q' D' ∧ S.drop q' = [59] ∧ V0 g' (n + ks.length) ∧ R0 G' g' (n + ks.length) 0 ∧ (∀ k : Nat, k ≠ 0 → (k < 12 + n ∨ 52 ≤ k) → g' k = g k) ∧ ∀ i k : Nat, ks[i]? = some k → g' (12 + (n + i)) = num k := by
  intro ks
  induction ks with
  | nil =>
    intro N n q D G g _ hn hN hA hP hV hR h1
    obtain ⟨M, rfl⟩ : ∃ M, N = M + 1 := ⟨N - 1, by omega⟩
    have hd : S.drop q = 59 :: [] := hP
    have n1 : 1 ≤ n := h1.resolve_right (fun z => z rfl)
    have hn' : n < 40 := by simpa using hn
    refine ⟨q, D, G, g, ?_, hA, hP, hV, hR, fun _ _ _ => rfl, fun i k z => by simp at z⟩
    unfold lpX2_readValues_2
    rw [if_neg (show ¬ (40 : Int32) ≤ nI n from nI_ge (b := 40) hn' (by decide)), if_neg (nI_ne0 (by omega) (by omega)), nextD (D := (D, G)) (x := 59) hA hl hd, if_pos (show nI 59 = 59 from rfl), bp_s, if_neg (show ¬ (1 : Int32) = 0 by decide)]
  | cons k ks ih =>
    intro N n q D G g hk hn hN hA hP hV hR h1
    obtain ⟨M, rfl⟩ : ∃ M, N = M + 1 := ⟨N - 1, by omega⟩
    have hk41 := hk k List.mem_cons_self
    rw [List.length_cons] at hn hN
    have hd : S.drop q = vtxt k ++ Wt ks := hP
    obtain ⟨c, r, e1, e2, e3, e4⟩ := vt_h hk41
    have hd1 : S.drop q = c :: (r ++ Wt ks) := by rw [hd, e1]; rfl
    obtain ⟨q', hg, hP'⟩ := pw_of (dr_a (vtxt k) (Wt ks) q hd) (fun x hx => hk x (List.mem_cons_of_mem _ hx))
    obtain ⟨D', a1, a2, a3⟩ := valueD (D := (D, G)) hA hl hk41 hd (ND_Wt ks) hg
    obtain ⟨⟨b1, b2⟩, -⟩ := num_b k hk41
    obtain ⟨G', g', c1, hV', hR', c2, c3⟩ := add_d hV hR (by omega) b1 b2
    obtain ⟨q2, D2, G2, g2, t1, t2, t3, t4, t5, t6, t7⟩ := ih M (n + 1) q' D' G' g' (fun x hx => hk x (List.mem_cons_of_mem _ hx)) (by omega) (by omega) a2 hP' hV' hR' (Or.inl (by omega))
    have hc : bs (dnX2_readValue (D, G)) (fun r4 D5 => if r4 = 0 then some (0, D5) else bp (dnX1_addAtEnd D5.2 (D5.1 0 7)) (fun G8 => lpX2_readValues_2 M (nI n + 1) (D5.1, G8))) = some (1, (D2, G2)) := by
      rw [a1, bs_s, if_neg (show ¬ (1 : Int32) = 0 by decide), show ((D', ((D, G) : gD).2) : gD).1 0 7 = num k from a3, show dnX1_addAtEnd ((D', ((D, G) : gD).2) : gD).2 (num k) = _ from c1, bp_s, nI_1]
      exact t1
    rw [List.length_cons, show n + (ks.length + 1) = n + 1 + ks.length by omega]
    refine ⟨q2, D2, G2, g2, ?_, t2, t3, t4, t5, fun j j0 j1 => by rw [t6 j j0 (by omega), c3 j j0 (by omega)], fun i x z => ?_⟩
    · unfold lpX2_readValues_2
      rw [if_neg (show ¬ (40 : Int32) ≤ nI n from nI_ge (b := 40) (by omega) (by decide))]
      by_cases z0 : n = 0
      · rw [if_pos (by rw [z0]; rfl)]; exact hc
      · rw [if_neg (nI_ne0 (by omega) (by omega)), nextD (D := (D, G)) (x := 59) hA hl hd1, if_neg (show ¬ nI c = (59 : Int32) from fun z => e4 ((nI_eq (b := 59) (by omega) (by decide)).mp z)), bp_s, if_pos rfl]
        exact hc
    · cases i with
      | zero =>
        obtain rfl : k = x := Option.some.inj z
        rw [Nat.add_zero, t6 _ (by omega) (by omega), c2]
      | succ i =>
        rw [show n + (i + 1) = n + 1 + i by omega]
        exact t7 i x z
theorem ruleD {S : List Nat} {R M : Nat} {ks : List Nat} {D : gD} (hl : S.length ≤ 140) (h : At S 0 D.1) (hS : S = txt R M ks) (hR : R ≤ 2) (h1 : 1 ≤ M) (h8 : M ≤ 8) (hk : ∀ k ∈ ks, k < 41) : ∃ (q : Nat) (D' : gF), dnX2_readRule D = some (1, (D', sG D.2 (nI R) (nI M))) ∧ At S q D' ∧ PW S ks q := by
  have d0 : S.drop 0 = 114 :: 111 :: 119 :: 32 :: (dec R ++ (32 :: (dec M ++ (58 :: Wt ks)))) := hS
  have d3 : S.drop 3 = 32 :: (dec R ++ (32 :: (dec M ++ (58 :: Wt ks)))) := (dr_c (dr_c (dr_c d0).2.2).2.2).2.2
  have d4 := (dr_c d3).2.2
  obtain ⟨-, -, -, -, c, r, k1, k2, k3⟩ := dec_ok (show R < 100 by omega)
  obtain ⟨-, -, -, -, c', r', j1, j2, j3⟩ := dec_ok (show M < 100 by omega)
  have g3 : GT S 3 4 := gt_b (show S.drop 3 = 32 :: c :: (r ++ (32 :: (dec M ++ (58 :: Wt ks)))) from by rw [d3, k1]; rfl) (by omega) (by omega)
  have dR := dr_a _ _ _ d4
  have gR' : GT S (4 + (dec R).length) (4 + (dec R).length + 1) := gt_b (show S.drop (4 + (dec R).length) = 32 :: c' :: (r' ++ (58 :: Wt ks)) from by rw [dR, j1]; rfl) (by omega) (by omega)
  have dM0 := (dr_c dR).2.2
  have dM := dr_a _ _ _ dM0
  have gM : GT S (4 + (dec R).length + 1 + (dec M).length) (4 + (dec R).length + 1 + (dec M).length) := gt_e dM (by decide) (by decide)
  obtain ⟨q, hg, hP⟩ := pw_of (dr_c dM).2.2 hk
  have hA1 : At S 4 ((wr D.1 0 6 (nI 4), D.2) : gD).1 := h.1.p
  obtain ⟨D1, a1, a2, a3, -⟩ := decD (lo := 0) (hi := 2) hA1 hl (by omega) d4 (Or.inr ⟨32, _, rfl, by decide, by decide⟩) gR' (nI_pos' (by omega)) (nI_le (b := 2) hR (by decide))
  have hA2 : At S (4 + (dec R).length + 1) ((wr D1 0 9 (nI R), D.2) : gD).1 := a2.w (by decide)
  obtain ⟨D2, b1, b2, b3, b4⟩ := decD (lo := 1) (hi := 8) hA2 hl (by omega) dM0 (Or.inr ⟨58, _, rfl, by decide, by decide⟩) gM (nI_le (a := 1) h1 (by omega)) (nI_le (b := 8) h8 (by decide))
  have e9 : D2 0 9 = nI R := by rw [b4 9 (by decide) (by decide) (by decide)]; exact (show (wr D1 0 9 (nI R)) 0 9 = nI R from wr_i ..)
  have hA3 : At S (4 + (dec R).length + 1 + (dec M).length) ((D2, sG D.2 (nI R) (nI M)) : gD).1 := b2
  refine ⟨q, wr D2 0 6 (nI q), ?_, b2.1.p, hP⟩
  unfold dnX2_readRule
  rw [rowD h hl d0 g3, bs_s, if_neg (show ¬ (1 : Int32) = 0 by decide), a1, bs_s, if_neg (show ¬ (1 : Int32) = 0 by decide), show ((D1, ((wr D.1 0 6 (nI 4), D.2) : gD).2) : gD).1 0 7 = nI R from a3, bw_s]
  show bs (dnX2_readNumber (wr D1 0 9 (nI R), D.2) 1 8) _ = _
  rw [b1, bs_s, if_neg (show ¬ (1 : Int32) = 0 by decide)]
  show bp (dnX1_start D.2 (D2 0 9) (D2 0 7)) _ = _
  rw [e9, b3, sG_e, bp_s]
  show bs (dnX2_readSign (D2, sG D.2 (nI R) (nI M)) 58) _ = _
  unfold dnX2_readSign
  rw [signY (x := 58) hA3 hl dM rfl hg, bs_s, if_neg (show ¬ (1 : Int32) = 0 by decide), bs_s]
  rfl
/-- the whole text is read -/
theorem readD {S : List Nat} {R M : Nat} {ks : List Nat} {D : gD} (hl : S.length ≤ 140) (hb : ∀ j : Nat, j < S.length → D.1 1 j = nI (S.getD j 0)) (hS : S = txt R M ks) (hR : R ≤ 2) (h1 : 1 ≤ M) (h8 : M ≤ 8) (hk : ∀ k ∈ ks, k < 41) (hk1 : ks ≠ []) (h40 : ks.length < 40) : ∃ (D' : gF) (G' : gR) (g0 g' : Nat → Int32), dnX2_read D (nI S.length) = some (nI ks.length, (D', G')) ∧ D' 0 3 = 0 ∧ WF g' ks.length 0 ∧ RR G' g' ks.length 0 ∧ BI g0 g' ks.length ∧ (g0 1 = nI R ∧ g0 2 = nI M ∧ g0 7 = 0 ∧ g0 8 = 0 ∧ g0 9 = 0 ∧ g0 10 = 0) ∧ (g0 6 = nI 0) ∧ ∀ i k : Nat, ks[i]? = some k → g0 (12 + i) = num k := by
  have hT : AtT S (wr (wr (wr D.1 0 5 (nI S.length)) 0 3 0) 0 4 (-1)) := by
    refine ⟨?_, ?_, ?_, fun j hj => ?_⟩
    · rw [wr_o (by decide), wr_o (by decide), wr_i]
    · rw [wr_o (by decide), wr_i]
    · rw [wr_i]
    · rw [wr_b (by decide), wr_b (by decide), wr_b (by decide)]; exact hb j hj
  have hA0 : At S 0 ((wr (wr (wr (wr D.1 0 5 (nI S.length)) 0 3 0) 0 4 (-1)) 0 6 (nI 0), D.2) : gD).1 := hT.p
  have g00 : GT S 0 0 := gt_e (show S.drop 0 = 114 :: (111 :: 119 :: 32 :: (dec R ++ (32 :: (dec M ++ (58 :: Wt ks))))) from hS) (by decide) (by decide)
  have eg := goT (D := (wr (wr (wr D.1 0 5 (nI S.length)) 0 3 0) 0 4 (-1), D.2)) hT hl g00
  obtain ⟨q, D1, a1, a2, a3⟩ := ruleD hl hA0 hS hR h1 h8 hk
  obtain ⟨q2, D2, G2, g2, b1, b2, b3, b4, b5, b6, b7⟩ := valsD hl ks FU 0 q D1 (sG D.2 (nI R) (nI M)) _ hk (by omega) (by unfold FU; omega) a2 a3 (V0s hR h1 h8) (R0s D.2 (nI R) (nI M)) (Or.inr hk1)
  rw [Nat.zero_add] at b4 b5
  have hk0 : 1 ≤ ks.length := List.length_pos_iff.mpr hk1
  obtain ⟨G', g', e4, -, hW', hR', hI, -⟩ := builds_b F0r_M (b4.w0 hk0) b5
  have d59 : S.drop q2 = 59 :: [] := b3
  have hd := dr_c d59
  have hle := List.drop_eq_nil_iff.mp hd.2.2
  have gE : GT S (q2 + 1) (q2 + 1) := ⟨by omega, Or.inl ⟨rfl, Or.inl hd.2.2⟩⟩
  have hA3 : At S (q2 + 1) (wr D2 0 6 (nI (q2 + 1))) := b2.1.p
  have ev : dnX2_readValues (D1, sG D.2 (nI R) (nI M)) = some (1, (wr D2 0 6 (nI (q2 + 1)), G')) := by
    unfold dnX2_readValues
    rw [show lpX2_readValues_2 FU 0 (D1, sG D.2 (nI R) (nI M)) = _ from b1, bp_s, if_neg (show ¬ (1 : Nat) = 0 by decide), signY (D := (D2, G2)) (x := 59) b2 hl d59 rfl gE, bs_s, if_neg (show ¬ (1 : Int32) = 0 by decide), show dnX1_buildAll ((wr ((D2, G2) : gD).1 0 6 (nI (q2 + 1)), ((D2, G2) : gD).2) : gD).2 = some G' from e4, bp_s]
  have e41 : lpX2_read_41 FU 0 (wr D2 0 6 (nI (q2 + 1)), G') = some (1, (wr D2 0 6 (nI (q2 + 1)), G')) := by
    rw [show FU = FU - 1 + 1 from rfl]
    unfold lpX2_read_41
    rw [if_neg (by decide), show ((wr D2 0 6 (nI (q2 + 1)), G') : gD).1 0 5 = nI S.length from hA3.1.1, show ((wr D2 0 6 (nI (q2 + 1)), G') : gD).1 0 6 = nI (q2 + 1) from hA3.2, if_pos (nI_le hle (by omega))]
  refine ⟨wr D2 0 6 (nI (q2 + 1)), G', g2, g', ?_, hA3.1.2.1, hW', hR', hI, ⟨?_, ?_, ?_, ?_, ?_, ?_⟩, ?_, fun i k z => by have := b7 i k z; rw [Nat.zero_add] at this; exact this⟩
  · unfold dnX2_read
    rw [bw_s, bw_s, bw_s, show dnX2_goTo (wr (wr (wr D.1 0 5 (nI S.length)) 0 3 0) 0 4 (-1), D.2) 0 = _ from eg, bp_s]
    show bs (dnX2_readRule (wr (wr (wr (wr D.1 0 5 (nI S.length)) 0 3 0) 0 4 (-1)) 0 6 (nI 0), D.2)) _ = _
    rw [a1, bs_s, if_neg (show ¬ (1 : Int32) = 0 by decide)]
    show bs (dnX2_readValues (D1, sG D.2 (nI R) (nI M))) _ = _
    rw [ev, bs_s, if_neg (show ¬ (1 : Int32) = 0 by decide), e41, bp_s, if_neg (show ¬ (1 : Nat) = 0 by decide)]
    show some (G'.1 0 3, _) = _
    rw [hR'.1.1, hW'.1.2.2]
  · rw [b6 1 (by decide) (by omega), z1]
  · rw [b6 2 (by decide) (by omega), z2]
  · rw [b6 7 (by decide) (by omega), z12 _ _ (by decide) (by decide)]
  · rw [b6 8 (by decide) (by omega), z12 _ _ (by decide) (by decide)]
  · rw [b6 9 (by decide) (by omega), z12 _ _ (by decide) (by decide)]
  · rw [b6 10 (by decide) (by omega), z12 _ _ (by decide) (by decide)]
  · rw [b6 6 (by decide) (by omega), z12 _ _ (by decide) (by decide)]; rfl
theorem loadD {S : List Nat} {R M f u x : Nat} {ks : List Nat} {V : gX} (hl : S.length ≤ 140) (hb : BUd S f V.2.2.1.1) (hf : S.length ≤ f) (hf5 : f ≤ 500) (hS : S = txt R M ks) (hR : R ≤ 2) (h1 : 1 ≤ M) (h8 : M ≤ 8) (hk : ∀ k ∈ ks, k < 41) (hk1 : ks ≠ []) (h40 : ks.length < 40) (hu : u ≤ 8) (hx : x < 8) (eu : V.2.2.2.1 0 2 = nI u) (ex : V.2.2.2.1 0 1 = nI x) : ∃ (V' : gX) (g0 g' : Nat → Int32), dnX4_load V (nI S.length) = some (.inr (nI ks.length, V')) ∧ KK V' g' ks.length 0 ∧ BI g0 g' ks.length ∧ (g0 1 = nI R ∧ g0 2 = nI M ∧ g0 7 = 0 ∧ g0 8 = 0 ∧ g0 9 = 0 ∧ g0 10 = 0) ∧ g0 6 = nI 0 ∧ ∀ i k : Nat, ks[i]? = some k → g0 (12 + i) = num k := by
  obtain ⟨D', G', g0, g', e, e3, hW, hRR, hI, hz, h6, hn⟩ := readD (D := V.2.2.1) hl (fun j hj => by rw [hb.2 j (by omega)]; unfold ltr; rw [if_pos hj]) hS hR h1 h8 hk hk1 h40
  refine ⟨(wr V.1 0 3 ((wr D' 0 1 0) 0 4), G', (wr D' 0 1 0, G'), (hSave V.2.2.2.1, va_up V.2.2.2.2 x V.2.1)), g0, g', ?_, ?_, hI, hz, h6, hn⟩
  · unfold dnX4_load
    rw [if_neg (nI_pos (by omega)), hb.1, if_pos (nI_le hf (by omega)), e, bs_s, bw_s, bw_s, show (wr ((D', G') : gD).1 0 1 0) 0 3 = 0 from by rw [wr_o (by decide)]; exact e3, if_pos rfl, ex, wi_ok hx (by decide), bw_s]
  · obtain ⟨-, -, q⟩ := KK.nx (V := V) hu hx eu ex hW hRR
    exact ⟨hW, hRR, q⟩
