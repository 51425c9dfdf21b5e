/-! the law's row and the class behind the text -/
theorem LG.start {Y : yT} {vs L : List Nat} {ca : Nat → Nat} {f f' : Nat → va_E} {R M : Nat} {g0 g' : Nat → Int32} (n40 : vs.length ≤ 40) (hg : NG vs f g0) (hB : BLD Y vs L ca g0 f f') (hI : BI g0 g' vs.length) (hz : g0 1 = nI R ∧ g0 2 = nI M ∧ g0 7 = 0 ∧ g0 8 = 0 ∧ g0 9 = 0 ∧ g0 10 = 0) (h6 : g0 6 = nI 0) : LG vs [] ca f' (nI R) (nI M) 0 (0 + nI (cs (fun l => vs.length + 1 - 2 ^ l) 5)) 0 (0 + 1) g' [] := by
  obtain ⟨z1, z2, z7, z8, z9, z10⟩ := hz
  obtain ⟨b0, b8, b10, bw, bc⟩ := hI
  refine ⟨⟨fun p v hp => ?_, fun p v hp => ?_⟩, fun l p q1 q5 q2 => ?_, ⟨?_, ?_, ?_, ?_, ?_, ?_⟩, ⟨Nat.zero_le _, ?_, fun k a b q => by simp at q⟩, rfl, fun k a b q => by simp at q, fun k y q => by simp at q⟩
  · have hpn := (List.getElem?_eq_some_iff.mp hp).1
    rw [b0 _ (by omega) (by omega) (by omega), hB.2.1 v (List.mem_of_getElem? hp)]
    exact hg p v hp
  · have hpn := (List.getElem?_eq_some_iff.mp hp).1
    rw [bw p (by omega), hB.2.1 v (List.mem_of_getElem? hp)]; rfl
  · have h0 : 0 < 2 ^ l := Nat.two_pow_pos l
    exact ⟨lm g0 p (2 ^ l - 1), bc l p q1 q5 q2, lm_n (by omega), hB.2.2.2 l p q1 q5 q2⟩
  · rw [b0 _ (by decide) (by decide) (by decide)]; exact z1.symm
  · rw [b0 _ (by decide) (by decide) (by decide)]; exact z2.symm
  · rw [b0 _ (by decide) (by decide) (by decide)]; exact z7.symm
  · rw [b8, z8]
  · rw [b0 _ (by decide) (by decide) (by decide)]; exact z9.symm
  · rw [b10, z10]
  · rw [b0 _ (by decide) (by decide) (by decide), h6]; rfl
/-- the letters of the values -/
def VT : List Nat → List Nat
  | [] => []
  | k :: ks => (32 :: vtxt k) ++ VT ks
theorem VT_s (ks : List Nat) (k : Nat) : VT (ks ++ [k]) = VT ks ++ (32 :: vtxt k) := by
  induction ks with
  | nil => show (32 :: vtxt k) ++ [] = [] ++ (32 :: vtxt k); rw [List.append_nil, List.nil_append]
  | cons x ks ih =>
    show (32 :: vtxt x) ++ VT (ks ++ [k]) = ((32 :: vtxt x) ++ VT ks) ++ (32 :: vtxt k)
    rw [ih, List.append_assoc]
theorem VT_w (ks : List Nat) : VT ks ++ [59] = Wt ks := by
  induction ks with
  | nil => rfl
  | cons x ks ih =>
    show ((32 :: vtxt x) ++ VT ks) ++ [59] = 32 :: (vtxt x ++ Wt ks)
    rw [List.append_assoc, ih]; rfl
/-- what the builder holds behind the rule, and behind so many values -/
def HT (R M : Nat) : List Nat := ((([] ++ TC 6) ++ dec R) ++ TC 7 ++ dec M) ++ TC 8
def PT (R M : Nat) (ks : List Nat) : List Nat := HT R M ++ VT ks
theorem PT_n (R M : Nat) : HT R M = PT R M [] := (List.append_nil _).symm
theorem PT_e (R M : Nat) (ks : List Nat) : PT R M ks ++ [59] = txt R M ks := by
  unfold PT HT txt
  rw [List.append_assoc, VT_w]
  simp [TC, TCs, List.append_assoc]
theorem PT_lo (R M : Nat) (ks : List Nat) {k : Nat} (h : k < 20) : (PT R M ks ++ TC 9) ++ dec (20 - k) = PT R M (ks ++ [k]) := by
  unfold PT
  rw [VT_s, List.append_assoc, List.append_assoc]
  congr 1
  unfold vtxt
  rw [if_pos h]
  simp [TC, TCs]
theorem PT_hi (R M : Nat) (ks : List Nat) {k : Nat} (h : ¬ k < 20) : (PT R M ks ++ TC 7) ++ dec (k - 20) = PT R M (ks ++ [k]) := by
  unfold PT
  rw [VT_s, List.append_assoc, List.append_assoc]
  congr 1
  unfold vtxt
  rw [if_neg h]
  simp [TC, TCs]
theorem VT_len : ∀ ks : List Nat, (∀ k ∈ ks, k < 41) → (VT ks).length ≤ 4 * ks.length := by
  intro ks
  induction ks with
  | nil => intro _; exact Nat.le_refl _
  | cons x ks ih =>
    intro h
    have h1 := vt_len (h x List.mem_cons_self)
    have h2 := ih (fun k hk => h k (List.mem_cons_of_mem _ hk))
    show ((32 :: vtxt x) ++ VT ks).length ≤ _
    rw [List.length_append, List.length_cons, List.length_cons]
    omega
theorem HT_len {R M : Nat} (hR : R ≤ 2) (hM : M ≤ 8) : (HT R M).length = 8 := by
  unfold HT
  rw [show dec R = [48 + R] from if_pos (by omega), show dec M = [48 + M] from if_pos (by omega)]
  rfl
theorem PT_len {R M : Nat} {ks : List Nat} (hR : R ≤ 2) (hM : M ≤ 8) (hk : ∀ k ∈ ks, k < 41) : (PT R M ks).length ≤ 8 + 4 * ks.length := by
  unfold PT
  rw [List.length_append, HT_len hR hM]
  have := VT_len ks hk
  omega
/-- how the class and the law's row stand between two draws -/
def LI (Y : yT) (V : gX) (av cv ak ck : Nat) (ca : Nat → Nat) (vs ks L : List Nat) (f : Nat → va_E) (ru mo lk wn qu bu : Int32) : Prop := ∃ (g : Nat → Int32) (Pk : kL), LG vs ks ca f ru mo lk wn qu bu g Pk ∧ KK V g vs.length ks.length ∧ VO L vs f ∧ SO L ks f ∧ CO Y L ca f ∧ okL Y av cv vs ∧ okL Y ak ck ks
