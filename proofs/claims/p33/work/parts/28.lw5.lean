theorem pmq39 {α : Type} (c0 c1 c2 c3 c4 c5 : α) (t : List α) : ([c0, c1, c2, c3, c4, c5] ++ t : List α).Perm (([c3]) ++ ([c0, c1, c2, c4, c5] ++ t)) := pmA _ _ (fun x => by simp only [List.count_append, List.count_cons, List.count_nil]; omega)
theorem pmq40 {α : Type} (c0 c1 c2 c3 c4 c5 c6 : α) (t : List α) : ([c0, c1, c2, c3, c4, c5, c6] ++ t : List α).Perm ([c2, c3, c4, c1, c5, c6, c0] ++ t) := pmA _ _ (fun x => by simp only [List.count_append, List.count_cons, List.count_nil]; omega)
theorem pmq41 {α : Type} (c0 c1 c2 c3 c4 c5 c6 : α) (t : List α) : ([c0, c1, c2, c3, c4, c5, c6] ++ t : List α).Perm (([c6, c3]) ++ ([c0, c1, c2, c4, c5] ++ t)) := pmA _ _ (fun x => by simp only [List.count_append, List.count_cons, List.count_nil]; omega)
theorem pmq42 {α : Type} (c0 c1 c2 c3 c4 c5 c6 : α) (t : List α) (u : List α) (v : List α) : ([c0, c1, c2, c3, c4, c5, c6] ++ ((t ++ u) ++ v) : List α).Perm ((c3 :: t) ++ ([c0, c1, c2, c4, c5, c6] ++ (u ++ v))) := pmA _ _ (fun x => by simp only [List.count_append, List.count_cons, List.count_nil]; omega)
theorem pmq43 {α : Type} (c0 c1 c2 c3 c4 c5 c6 : α) (t : List α) (u : List α) (v : List α) : ((c3 :: t) ++ ([c0, c1, c2, c4, c5, c6] ++ (u ++ v)) : List α).Perm ([c0, c1, c2, c3, c4, c5, c6] ++ ((t ++ u) ++ v)) := pmA _ _ (fun x => by simp only [List.count_append, List.count_cons, List.count_nil]; omega)
theorem pmq44 {α : Type} (c0 c1 c2 c3 c4 c5 c6 : α) (t : List α) : ([c0, c1, c2, c3, c4, c5, c6] ++ t : List α).Perm (([c0, c1, c2, c3, c4, c5] ++ t) ++ [c6]) := pmA _ _ (fun x => by simp only [List.count_append, List.count_cons, List.count_nil]; omega)
theorem pmq45 {α : Type} (c0 c1 c2 c3 c4 c5 c6 : α) (t : List α) : ([c0, c1, c2, c3, c4, c5, c6] ++ t : List α).Perm ([c2, c3, c4, c5, c6, c1, c0] ++ t) := pmA _ _ (fun x => by simp only [List.count_append, List.count_cons, List.count_nil]; omega)
theorem pmq46 {α : Type} (c0 c1 c2 c3 c4 c5 c6 : α) (t : List α) : ([c0, c1, c2, c3, c4, c5, c6] ++ t : List α).Perm (([c6, c5]) ++ ([c0, c1, c2, c3, c4] ++ t)) := pmA _ _ (fun x => by simp only [List.count_append, List.count_cons, List.count_nil]; omega)
theorem pmq47 {α : Type} (c0 c1 c2 c3 c4 : α) (t : List α) (u : List α) (v : List α) : ([c0, c1, c2, c3, c4] ++ ((t ++ u) ++ v) : List α).Perm (([c0, c1, c2, c3, c4] ++ (t ++ v)) ++ u) := pmA _ _ (fun x => by simp only [List.count_append, List.count_cons, List.count_nil]; omega)
theorem pmq48 {α : Type} (c0 c1 c2 c3 c4 c5 c6 : α) (t : List α) (u : List α) (v : List α) : ([c0, c1, c2, c3, c4, c5, c6] ++ ((t ++ u) ++ v) : List α).Perm (([c6, c5] ++ u) ++ ([c0, c1, c2, c3, c4] ++ (t ++ v))) := pmA _ _ (fun x => by simp only [List.count_append, List.count_cons, List.count_nil]; omega)
theorem pmq49 {α : Type} (c0 c1 c2 c3 c4 c5 c6 : α) (t : List α) (u : List α) (v : List α) : (([c6, c5] ++ u) ++ ([c0, c1, c2, c3, c4] ++ (t ++ v)) : List α).Perm ([c0, c1, c2, c3, c4, c5, c6] ++ ((t ++ u) ++ v)) := pmA _ _ (fun x => by simp only [List.count_append, List.count_cons, List.count_nil]; omega)
theorem pmq50 {α : Type} (c0 c1 c2 c3 c4 c5 c6 : α) (t : List α) (u : List α) (v : List α) : ([c0, c1, c2, c3, c4, c5, c6] ++ ((t ++ u) ++ v) : List α).Perm (((c3 :: t) ++ ([c0, c1, c2, c4, c5, c6] ++ (u ++ v))) ++ []) := pmA _ _ (fun x => by simp only [List.count_append, List.count_cons, List.count_nil]; omega)
theorem pmq51 {α : Type} (c0 c1 c2 c3 c4 c5 c6 : α) (t : List α) (u : List α) (v : List α) : (((c3 :: t) ++ ([c0, c1, c2, c4, c5, c6] ++ (u ++ v))) ++ [] : List α).Perm ([c0, c1, c2, c3, c4, c5, c6] ++ ((t ++ u) ++ v)) := pmA _ _ (fun x => by simp only [List.count_append, List.count_cons, List.count_nil]; omega)
theorem pmq52 {α : Type} (c0 c1 c2 c3 c4 c5 c6 : α) (t : List α) (u : List α) (v : List α) : ([c0, c1, c2, c3, c4, c5, c6] ++ ((t ++ u) ++ v) : List α).Perm (([c6, c3] ++ t) ++ ([c0, c1, c2, c4, c5] ++ (u ++ v))) := pmA _ _ (fun x => by simp only [List.count_append, List.count_cons, List.count_nil]; omega)
theorem pmq53 {α : Type} (c0 c1 c2 c3 c4 c5 c6 : α) (t : List α) (u : List α) (v : List α) : (([c6, c3] ++ t) ++ ([c0, c1, c2, c4, c5] ++ (u ++ v)) : List α).Perm ([c0, c1, c2, c3, c4, c5, c6] ++ ((t ++ u) ++ v)) := pmA _ _ (fun x => by simp only [List.count_append, List.count_cons, List.count_nil]; omega)
theorem pmq54 {α : Type} (c0 c1 c2 c3 c4 c5 c6 : α) (t : List α) : ([c0, c1, c2, c3, c4, c5, c6] ++ t : List α).Perm (([c1, c2]) ++ ([c0, c3, c4, c5, c6] ++ t)) := pmA _ _ (fun x => by simp only [List.count_append, List.count_cons, List.count_nil]; omega)
theorem pmq55 {α : Type} (c0 c1 c2 c3 c4 c5 c6 : α) (t : List α) : ([c0, c1, c2, c3, c4, c5, c6] ++ t : List α).Perm ([c2, c0, c1, c3, c4, c5, c6] ++ t) := pmA _ _ (fun x => by simp only [List.count_append, List.count_cons, List.count_nil]; omega)
theorem pmq56 {α : Type} (c0 c1 c2 c3 c4 c5 c6 : α) (t : List α) (u : List α) (v : List α) : ([c0, c1, c2, c3, c4, c5, c6] ++ ((t ++ u) ++ v) : List α).Perm (((c5 :: u) ++ ([c0, c1, c2, c3, c4, c6] ++ (t ++ v))) ++ []) := pmA _ _ (fun x => by simp only [List.count_append, List.count_cons, List.count_nil]; omega)
theorem pmq57 {α : Type} (c0 c1 c2 c3 c4 c5 c6 : α) (t : List α) (u : List α) (v : List α) : (((c5 :: u) ++ ([c0, c1, c2, c3, c4, c6] ++ (t ++ v))) ++ [] : List α).Perm ([c0, c1, c2, c3, c4, c5, c6] ++ ((t ++ u) ++ v)) := pmA _ _ (fun x => by simp only [List.count_append, List.count_cons, List.count_nil]; omega)
theorem KT_s {Y : yT} {ak ck : Nat} (h : 0 < ck) (ks : List Nat) : KT Y ak ck ks = [(ak, .inl (Y.2.1 2, ck, .inr (.inr (.inr (.inr (fun k => ks[k]?))))))] := by rw [KT, if_neg (by omega)]
theorem WLs_K (Y : yT) (b : Nat) (mo : Int32) (ae cap : Nat) (xs : List Nat) : WLs Y b mo ae cap xs = (b, .inr (11, [.int mo, .ref ae, .int (nI xs.length)])) :: KT Y ae cap xs := rfl
theorem kNextL (l : Launch) (Dd : va_G) (Y : yT) (it b ae cap ku : Nat) (la mo : Int32) (xs : List Nat) (h : okL Y ae cap xs) (hi : ku < xs.length) : MR l yJx35411_next_0502b wsJx35411_next_0502b rmJx35411_next_0502b Dd Y [.ref it] ([(it, .inr (10, [.int (nI ku), .int la, .int mo, .ref b])), (b, .inr (11, [.int mo, .ref ae, .int (nI xs.length)]))] ++ KT Y ae cap xs) (fun rv w => rv = some (va_rf xs[ku]?) ∧ w = [(it, .inr (10, [.int (nI (ku + 1)), .int (nI ku), .int mo, .ref b])), (b, .inr (11, [.int mo, .ref ae, .int (nI xs.length)]))] ++ KT Y ae cap xs) 0 0 := by
  obtain ⟨g1, g2, g3⟩ := h
  rw [KT_s (by omega)]
  exact kJx35411_next_0502b l Dd Y it b ae cap ku xs.length la mo (fun k => xs[k]?) hi g2 (by omega)
theorem kAddL (l : Launch) (Dd : va_G) (Y : yT) (b ae cap v : Nat) (mo : Int32) (xs : List Nat) (ex : va_W) (h : okL Y ae cap xs) (hx : ∀ y ∈ xs, inx ex y) (hv : inx ex v) (h3 : xs.length ≤ 300) : MR l yJx4a65c_add_9ea2d wsJx4a65c_add_9ea2d rmJx4a65c_add_9ea2d Dd Y [.ref b, .ref v] (((b, .inr (11, [.int mo, .ref ae, .int (nI xs.length)])) :: KT Y ae cap xs) ++ ex) (fun rv w => rv = some (.int 1) ∧ ∃ (mo' : Int32) (ae' cap' : Nat), 0 < cap' ∧ okL Y ae' cap' (xs ++ [v]) ∧ w = ((b, .inr (11, [.int mo', .ref ae', .int (nI (xs ++ [v]).length)])) :: KT Y ae' cap' (xs ++ [v])) ++ ex) 1 1000 := kAdd l Dd Y b ae cap v mo xs ex h hx hv h3
theorem kClrL (l : Launch) (Dd : va_G) (Y : yT) (b ae cap : Nat) (mo : Int32) (xs : List Nat) (h : okL Y ae cap xs) : MR l yJx4a65c_clear_da8c8 wsJx4a65c_clear_da8c8 rmJx4a65c_clear_da8c8 Dd Y [.ref b] ((b, .inr (11, [.int mo, .ref ae, .int (nI xs.length)])) :: KT Y ae cap xs) (fun rv w => rv = none ∧ ∃ mo' : Int32, okL Y ae cap [] ∧ w = (b, .inr (11, [.int mo', .ref ae, .int (nI ([] : List Nat).length)])) :: KT Y ae cap []) 0 0 := kClr l Dd Y b ae cap mo xs h
theorem okL_new (Y : yT) : okL Y (Y.2.2.2.1 100) 0 [] := ⟨fun _ => ⟨rfl, rfl⟩, Nat.le_refl _, Nat.zero_le _⟩
theorem SO.at {L ks : List Nat} {f : Nat → va_E} (h : SO L ks f) {p k : Nat} (hp : ks[p]? = some k) : k ∈ L ∧ isS (f k) := h.2 k (List.mem_of_getElem? hp)
/-- what taking a value away does to a stretch -/
def tkD (f : Nat → va_E) (v k : Nat) : Bool := decide (frA (f k) = v ∧ toA (f k) = v)
def tkE (f : Nat → va_E) (v nx pv k : Nat) : va_E := sE (if frA (f k) = v then nx else frA (f k)) (if toA (f k) = v then pv else toA (f k))
def TKI (f f1 : Nat → va_E) (v nx pv : Nat) (ks : List Nat) (ku : Nat) (xs : List Nat) : Prop := (∀ a : Nat, (∀ p : Nat, p < ku → ks[p]? ≠ some a) → f1 a = f a) ∧ (∀ p k : Nat, p < ku → ks[p]? = some k → f1 k = if tkD f v k = true then f k else tkE f v nx pv k) ∧ xs = (ks.take ku).filter (fun k => !tkD f v k)
theorem TKI.z {f : Nat → va_E} {v nx pv : Nat} {ks : List Nat} : TKI f f v nx pv ks 0 [] := ⟨fun _ _ => rfl, fun p k h => absurd h (Nat.not_lt_zero p), by simp⟩
theorem take_sn {ks : List Nat} {i q : Nat} (h : ks[i]? = some q) : ks.take (i + 1) = ks.take i ++ [q] := by
  obtain ⟨hl, e⟩ := List.getElem?_eq_some_iff.mp h
  rw [List.take_succ, h]; rfl
theorem TKI.d {f f1 : Nat → va_E} {v nx pv ku k : Nat} {ks xs : List Nat} (hn : ks.Nodup) (h : TKI f f1 v nx pv ks ku xs) (hk : ks[ku]? = some k) (hd : tkD f v k = true) : TKI f f1 v nx pv ks (ku + 1) xs := by
  refine ⟨fun a ha => h.1 a (fun p hp => ha p (by omega)), fun p k' hp hk' => ?_, ?_⟩
  · rcases Nat.lt_or_ge p ku with q | q
    · exact h.2.1 p k' q hk'
    · obtain rfl : p = ku := by omega
      obtain rfl : k = k' := Option.some.inj (hk.symm.trans hk')
      rw [if_pos hd]
      exact h.1 k (fun p' hp' e => by have := vs_inj hn e hk; omega)
  · rw [take_sn hk, List.filter_append, ← h.2.2]
    simp [hd]
theorem TKI.k {f f1 : Nat → va_E} {v nx pv ku k : Nat} {ks xs : List Nat} (hn : ks.Nodup) (h : TKI f f1 v nx pv ks ku xs) (hk : ks[ku]? = some k) (hd : ¬ tkD f v k = true) {e : va_E} (he : e = tkE f v nx pv k) : TKI f (va_up f1 k e) v nx pv ks (ku + 1) (xs ++ [k]) := by
  subst he
  refine ⟨fun a ha => ?_, fun p k' hp hk' => ?_, ?_⟩
  · unfold va_up
    rw [if_neg (fun q : a = k => ha ku (by omega) (by rw [q]; exact hk))]
    exact h.1 a (fun p hp => ha p (by omega))
  · unfold va_up
    by_cases e : k' = k
    · rw [if_pos e, e, if_neg hd]
    · rw [if_neg e]
      exact h.2.1 p k' (by rcases Nat.lt_or_ge p ku with q | q; exact q; exact absurd (Option.some.inj ((show p = ku by omega) ▸ hk' |>.symm.trans hk)) e) hk'
  · rw [take_sn hk, List.filter_append, ← h.2.2]
    have : (!tkD f v k) = true := by simpa using hd
    simp [this]
theorem TKI.at {f f1 : Nat → va_E} {v nx pv ku k : Nat} {ks xs : List Nat} (hn : ks.Nodup) (h : TKI f f1 v nx pv ks ku xs) (hk : ks[ku]? = some k) : f1 k = f k := h.1 k (fun p' hp' e => by have := vs_inj hn e hk; omega)
theorem TKI.s {L ks xs : List Nat} {f f1 : Nat → va_E} {v nx pv ku : Nat} (h : TKI f f1 v nx pv ks ku xs) (hs : SO L ks f) {k : Nat} (hm : k ∈ ks) : k ∈ L ∧ isS (f1 k) := by
  refine ⟨(hs.2 k hm).1, ?_⟩
  obtain ⟨p, hp⟩ := List.getElem?_of_mem hm
  rcases Nat.lt_or_ge p ku with q | q
  · rw [h.2.1 p k q hp]
    split
    · exact (hs.2 k hm).2
    · exact isS_sE _ _
  · rw [h.1 k (fun p' hp' e => by have := vs_inj hs.1 e hp; omega)]; exact (hs.2 k hm).2
theorem TKI.sub {f f1 : Nat → va_E} {v nx pv ku k : Nat} {ks xs : List Nat} (h : TKI f f1 v nx pv ks ku xs) (hm : k ∈ xs) : k ∈ ks := by
  rw [h.2.2] at hm
  exact List.mem_of_mem_take (List.mem_filter.mp hm).1
theorem TKI.o {L ks xs : List Nat} {f f1 : Nat → va_E} {v nx pv ku a : Nat} (h : TKI f f1 v nx pv ks ku xs) (hs : SO L ks f) (ha : ¬ isS (f a)) : f1 a = f a := h.1 a (fun p hp e => ha (hs.2 a (List.mem_of_getElem? e)).2)
theorem TKI.vo {L ks vs xs : List Nat} {f f1 : Nat → va_E} {v nx pv ku : Nat} (h : TKI f f1 v nx pv ks ku xs) (hs : SO L ks f) (hv : VO L vs f) : VO L vs f1 := ⟨hv.1, fun a ha => ⟨(hv.2 a ha).1, by rw [h.o hs (fun k => V_S (hv.2 a ha).2 k)]; exact (hv.2 a ha).2⟩⟩
theorem TKI.co {Y : yT} {L ks xs : List Nat} {ca : Nat → Nat} {f f1 : Nat → va_E} {v nx pv ku : Nat} (h : TKI f f1 v nx pv ks ku xs) (hs : SO L ks f) (hv : CO Y L ca f) : CO Y L ca f1 := ⟨fun l hl => ⟨(hv.1 l hl).1, by rw [h.o hs (fun k => S_C k (hv.1 l hl).2)]; exact (hv.1 l hl).2⟩, hv.2⟩
theorem TKI.ng {L ks vs xs : List Nat} {f f1 : Nat → va_E} {g : Nat → Int32} {v nx pv ku : Nat} (h : TKI f f1 v nx pv ks ku xs) (hs : SO L ks f) (hv : VO L vs f) (hg : NG vs f g) : NG vs f1 g := fun p a hp => by
  rw [h.o hs (fun k => V_S (hv.2 a (List.mem_of_getElem? hp)).2 k)]; exact hg p a hp
theorem TKI.len {ks xs : List Nat} {f f1 : Nat → va_E} {v nx pv ku : Nat} (h : TKI f f1 v nx pv ks ku xs) : xs.length ≤ ku := by
  rw [h.2.2]
  refine Nat.le_trans (List.length_filter_le _ _) ?_
  rw [List.length_take]; omega
def KOk (vs ks : List Nat) (f : Nat → va_E) : Prop := ∀ k ∈ ks, ∃ a b : Nat, a ≤ b ∧ vs[a]? = some (frA (f k)) ∧ vs[b]? = some (toA (f k))
def remG (g : Nat → Int32) (x k : Nat) : Int32 := if k < 12 + x then g k else g (k + 1)
theorem VO.er {L vs : List Nat} {f : Nat → va_E} {x : Nat} (h : VO L vs f) : VO L (vs.eraseIdx x) f := ⟨List.Nodup.sublist (List.eraseIdx_sublist vs x) h.1, fun a ha => h.2 a (List.mem_of_mem_eraseIdx ha)⟩
theorem NG.er {vs : List Nat} {f : Nat → va_E} {g : Nat → Int32} {x : Nat} (h : NG vs f g) : NG (vs.eraseIdx x) f (remG g x) := by
  intro p a hp
  rw [List.getElem?_eraseIdx] at hp
  unfold remG
  by_cases c : p < x
  · rw [if_pos c] at hp; rw [if_pos (by omega)]; exact h p a hp
  · rw [if_neg c] at hp; rw [if_neg (by omega)]; exact h (p + 1) a hp
abbrev rmX5_take : Room := { frames := 7, cells := 20, slots := 17000, locals := 157 }
set_option maxRecDepth 100000 in
set_option maxHeartbeats 4000000 in
theorem kX5_take (l : Launch) (Dd : va_G) (Y : yT) (rb vl kl co av cv ak ck : Nat) (ca : Nat → Nat) (vs ks L : List Nat) (f : Nat → va_E) (ru mo lk wn qu bu mv mk : Int32) (x v : Nat) (g : Nat → Int32) (hg : NG vs f g) (hK : okL Y av cv vs) (hKk : okL Y ak ck ks) (hvo : VO L vs f) (hO : CO Y L ca f) (hS : SO L ks f) (hKO : KOk vs ks f) (h3 : vs.length ≤ 40) (h8 : ks.length ≤ 8) (hx0 : vs[x]? = some v) : MR l yX5_take wsX5_take rmX5_take Dd Y [.ref rb, .int (nI x)] ([(rb, .inr (5, [.ref vl, .ref kl, .ref co, .int ru, .int mo, .int lk, .int wn, .int qu, .int bu])), (vl, .inr (11, [.int mv, .ref av, .int (nI vs.length)])), (av, .inl (Y.2.1 2, cv, .inr (.inr (.inr (.inr (fun k => vs[k]?)))))), (kl, .inr (11, [.int mk, .ref ak, .int (nI ks.length)])), (co, .inl (Y.2.1 4, 6, .inr (.inr (.inr (.inr (fun l => some (ca l)))))))] ++ (KT Y ak ck ks ++ va_pl L f)) (fun rv w => rv = some (.int (nuA (f v))) ∧ ∃ (xs : List Nat) (f1 f' : Nat → va_E) (mv' mk' : Int32) (ak' ck' : Nat), TKI f f1 v (vs.getD (x + 1) 0) (vs.getD (x - 1) 0) ks ks.length xs ∧ okL Y ak' ck' xs ∧ BLD Y (vs.eraseIdx x) L ca (remG g x) f1 f' ∧ w = [(rb, .inr (5, [.ref vl, .ref kl, .ref co, .int ru, .int mo, .int lk, .int (wn + nI (cs (fun l => (vs.eraseIdx x).length + 1 - 2 ^ l) 5)), .int qu, .int (bu + 1)])), (vl, .inr (11, [.int mv', .ref av, .int (nI (vs.eraseIdx x).length)])), (av, .inl (Y.2.1 2, cv, .inr (.inr (.inr (.inr (fun k => (vs.eraseIdx x)[k]?)))))), (kl, .inr (11, [.int mk', .ref ak', .int (nI xs.length)])), (co, .inl (Y.2.1 4, 6, .inr (.inr (.inr (.inr (fun l => some (ca l)))))))] ++ (KT Y ak' ck' xs ++ va_pl L f')) 20 17000 := by
  refine MRk (cc := cX5_take) (maxL := 6) (ret := (some .int)) (by decide) rfl (Nat.le_of_ble_eq_true rfl) (fun {p₀ e₀ s m args below meth c₀ A} ls Q X hin hW hl hI hV hA => ?_)
  have hx := X.x
  have hb := X.b
  have hl : lv_has ls 6 [(0, .ref rb), (1, .int (nI x))] := hl
  have hinJx4a65c : ∀ w ∈ wsJx4a65c0, w ∈ wsX5_take := fun w h => List.mem_cons_of_mem _ (List.mem_append_left _ (List.mem_append_left _ (List.mem_append_left _ (List.mem_append_right _ h))))
  have hinX5 : ∀ w ∈ wsX50, w ∈ wsX5_take := fun w h => List.mem_cons_of_mem _ (List.mem_append_left _ (List.mem_append_left _ (List.mem_append_left _ (List.mem_append_left _ (List.mem_append_right _ h)))))
  have hinX6 : ∀ w ∈ wsX60, w ∈ wsX5_take := fun w h => List.mem_cons_of_mem _ (List.mem_append_left _ (List.mem_append_left _ (List.mem_append_right _ h)))
  have hinX7 : ∀ w ∈ wsX70, w ∈ wsX5_take := fun w h => List.mem_cons_of_mem _ (List.mem_append_left _ (List.mem_append_right _ h))
  have hC := hK.2
  have hxn := (List.getElem?_eq_some_iff.mp hx0).1
  refine lv_aload_n hx hb dX5_take_0 rfl (lv_at hl 0 rfl) ?_
  refine g_ X hinX5 hW 0 rfl rfl 0 (by decide) 1 rfl rfl rfl dX5_take_1 ?_
  refine lv_iload_n hx hb dX5_take_4 rfl (lv_at hl 1 rfl) ?_
  refine rF_ (As := [.int (nI x)]) (rest := []) (wc := [(vl, .inr (11, [.int mv, .ref av, .int (nI vs.length)])), (av, .inl (Y.2.1 2, cv, .inr (.inr (.inr (.inr (fun k => vs[k]?))))))]) (w9 := [(rb, .inr (5, [.ref vl, .ref kl, .ref co, .int ru, .int mo, .int lk, .int wn, .int qu, .int bu])), (kl, .inr (11, [.int mk, .ref ak, .int (nI ks.length)])), (co, .inl (Y.2.1 4, 6, .inr (.inr (.inr (.inr (fun l => some (ca l)))))))] ++ (KT Y ak ck ks ++ va_pl L f)) X 1 (kJx4a65c_get_915e3 l Dd Y vl av cv vs.length x mv (fun k => vs[k]?) (by omega) hC.1 (by omega)) gX5_take_Jx4a65c_get_915e3_f30Jx4a65c rfl rfl rfl (by decide +kernel) (by decide +kernel) ⟨(Nat.le_of_ble_eq_true rfl), (Nat.le_of_ble_eq_true rfl)⟩ hW (pmq27 _ _ _ _ _ _) 0 11 rfl rfl rfl rfl hl.1 rfl (Nat.le_of_ble_eq_true rfl) dX5_take_5 ⟨(Nat.le_of_ble_eq_true rfl), (Nat.le_of_ble_eq_true rfl)⟩ (fun rv wq H locs hp hW => ?_)
  obtain ⟨rfl, rfl⟩ := hp
  have hW : Wd Dd A s.heap ([(vl, .inr (11, [.int mv, .ref av, .int (nI vs.length)])), (av, .inl (Y.2.1 2, cv, .inr (.inr (.inr (.inr (fun k => vs[k]?)))))), (rb, .inr (5, [.ref vl, .ref kl, .ref co, .int ru, .int mo, .int lk, .int wn, .int qu, .int bu])), (kl, .inr (11, [.int mk, .ref ak, .int (nI ks.length)])), (co, .inl (Y.2.1 4, 6, .inr (.inr (.inr (.inr (fun l => some (ca l)))))))] ++ (KT Y ak ck ks ++ va_pl L f)) H locs := hW
  have hW : Wd Dd A s.heap ([(rb, .inr (5, [.ref vl, .ref kl, .ref co, .int ru, .int mo, .int lk, .int wn, .int qu, .int bu])), (vl, .inr (11, [.int mv, .ref av, .int (nI vs.length)])), (av, .inl (Y.2.1 2, cv, .inr (.inr (.inr (.inr (fun k => vs[k]?)))))), (kl, .inr (11, [.int mk, .ref ak, .int (nI ks.length)])), (co, .inl (Y.2.1 4, 6, .inr (.inr (.inr (.inr (fun l => some (ca l)))))))] ++ (KT Y ak ck ks ++ va_pl L f)) H locs := hW.permA (pmq28 _ _ _ _ _ _)
  refine W.eq (g2 := F0 m 10 ls [va_rf vs[x]?]) rfl ?_
  rw [hx0]
  refine W.eq (g2 := F0 m 10 ls [.ref v]) rfl ?_
  refine vCa_ X hW (hvo.at hx0) (i := 2) rfl dX5_take_10 ?_
  refine lv_astore_n (lv' := [(2, .ref v), (0, .ref rb), (1, .int (nI x))]) hx hb dX5_take_13 rfl hl (by decide) rfl (fun ls hl => ?_)
  refine nw_ (ci := 11) X hinJx4a65c tyJx4a65c tyJx4a65c_ok 3 4 5 rfl rfl rfl hW rfl [.int 0, .null, .int 0] (fun j hj => by rcases (show j = 0 ∨ j = 1 ∨ j = 2 by omega) with rfl | rfl | rfl <;> rfl) (Nat.le_of_ble_eq_true rfl) (Nat.le_of_ble_eq_true rfl) dX5_take_14 (fun lf H hW => ?_)
  have hW : Wd Dd A s.heap ([(rb, .inr (5, [.ref vl, .ref kl, .ref co, .int ru, .int mo, .int lk, .int wn, .int qu, .int bu])), (vl, .inr (11, [.int mv, .ref av, .int (nI vs.length)])), (av, .inl (Y.2.1 2, cv, .inr (.inr (.inr (.inr (fun k => vs[k]?)))))), (kl, .inr (11, [.int mk, .ref ak, .int (nI ks.length)])), (co, .inl (Y.2.1 4, 6, .inr (.inr (.inr (.inr (fun l => some (ca l))))))), (lf, .inr (11, [.int 0, .null, .int 0]))] ++ (KT Y ak ck ks ++ va_pl L f)) _ _ := hW.permA pm_new
  refine lv_dup hx hb dX5_take_17 rfl ?_
  refine rI_ (As := []) (rest := [.ref lf]) (wc := [(lf, .inr (11, [.int 0, .null, .int 0]))]) (w9 := [(rb, .inr (5, [.ref vl, .ref kl, .ref co, .int ru, .int mo, .int lk, .int wn, .int qu, .int bu])), (vl, .inr (11, [.int mv, .ref av, .int (nI vs.length)])), (av, .inl (Y.2.1 2, cv, .inr (.inr (.inr (.inr (fun k => vs[k]?)))))), (kl, .inr (11, [.int mk, .ref ak, .int (nI ks.length)])), (co, .inl (Y.2.1 4, 6, .inr (.inr (.inr (.inr (fun l => some (ca l)))))))] ++ (KT Y ak ck ks ++ va_pl L f)) X (kJx4a65c_init_da8c8 l Dd Y lf 0) (cwI 0 X.1.2.2.2.2 gX5_take_Jx4a65c_init_da8c8 rfl rfl rfl (X.w (i := 5) rfl) (X.w (i := 26) rfl) (X.w (i := 27) rfl) rfl (by decide +kernel) ⟨(Nat.le_of_ble_eq_true rfl), (Nat.le_of_ble_eq_true rfl)⟩) hW (pmq35 _ _ _ _ _ _ _) rfl hl.1 rfl (Nat.le_of_ble_eq_true rfl) dX5_take_18 ⟨(Nat.le_of_ble_eq_true rfl), (Nat.le_of_ble_eq_true rfl)⟩ (fun rv wq H locs hp hW => ?_)
  obtain ⟨rfl, rfl⟩ := hp
  have hW : Wd Dd A s.heap ([(lf, .inr (11, [.int 0, .ref (Y.2.2.2.1 100), .int 0])), (rb, .inr (5, [.ref vl, .ref kl, .ref co, .int ru, .int mo, .int lk, .int wn, .int qu, .int bu])), (vl, .inr (11, [.int mv, .ref av, .int (nI vs.length)])), (av, .inl (Y.2.1 2, cv, .inr (.inr (.inr (.inr (fun k => vs[k]?)))))), (kl, .inr (11, [.int mk, .ref ak, .int (nI ks.length)])), (co, .inl (Y.2.1 4, 6, .inr (.inr (.inr (.inr (fun l => some (ca l)))))))] ++ (KT Y ak ck ks ++ va_pl L f)) H locs := hW
  have hW : Wd Dd A s.heap ([(rb, .inr (5, [.ref vl, .ref kl, .ref co, .int ru, .int mo, .int lk, .int wn, .int qu, .int bu])), (vl, .inr (11, [.int mv, .ref av, .int (nI vs.length)])), (av, .inl (Y.2.1 2, cv, .inr (.inr (.inr (.inr (fun k => vs[k]?)))))), (kl, .inr (11, [.int mk, .ref ak, .int (nI ks.length)])), (co, .inl (Y.2.1 4, 6, .inr (.inr (.inr (.inr (fun l => some (ca l))))))), (lf, .inr (11, [.int 0, .ref (Y.2.2.2.1 100), .int 0]))] ++ (KT Y ak ck ks ++ va_pl L f)) H locs := hW.permA (pmq36 _ _ _ _ _ _ _)
  refine W.eq (g2 := F0 m 21 ls [.ref lf]) rfl ?_
  refine lv_astore_n (lv' := [(3, .ref lf), (2, .ref v), (0, .ref rb), (1, .int (nI x))]) hx hb dX5_take_21 rfl hl (by decide) rfl (fun ls hl => ?_)
  refine lv_aload_n hx hb dX5_take_22 rfl (lv_at hl 2 rfl) ?_
  refine g_ X hinX5 hW 0 rfl rfl 1 (by decide) 6 rfl rfl rfl dX5_take_23 ?_
  refine rF_ (As := []) (rest := []) (wc := [(kl, .inr (11, [.int mk, .ref ak, .int (nI ks.length)]))]) (w9 := [(rb, .inr (5, [.ref vl, .ref kl, .ref co, .int ru, .int mo, .int lk, .int wn, .int qu, .int bu])), (vl, .inr (11, [.int mv, .ref av, .int (nI vs.length)])), (av, .inl (Y.2.1 2, cv, .inr (.inr (.inr (.inr (fun k => vs[k]?)))))), (co, .inl (Y.2.1 4, 6, .inr (.inr (.inr (.inr (fun l => some (ca l))))))), (lf, .inr (11, [.int 0, .ref (Y.2.2.2.1 100), .int 0]))] ++ (KT Y ak ck ks ++ va_pl L f)) X 0 (kJx4a65c_iterator_32c93 l Dd Y kl mk (nI ks.length) (.ref ak)) gX5_take_Jx4a65c_iterator_32c93_f51Jx4a65c rfl rfl rfl (by decide +kernel) (by decide +kernel) ⟨(Nat.le_of_ble_eq_true rfl), (Nat.le_of_ble_eq_true rfl)⟩ hW (pmq39 _ _ _ _ _ _ _) 0 11 rfl rfl rfl rfl hl.1 rfl (Nat.le_of_ble_eq_true rfl) dX5_take_26 ⟨(Nat.le_of_ble_eq_true rfl), (Nat.le_of_ble_eq_true rfl)⟩ (fun rv wq H locs hp hW => ?_)
  obtain ⟨it, rfl, rfl⟩ := hp
  have hW : Wd Dd A s.heap ([(it, .inr (10, [.int 0, .int (-1), .int mk, .ref kl])), (kl, .inr (11, [.int mk, .ref ak, .int (nI ks.length)])), (rb, .inr (5, [.ref vl, .ref kl, .ref co, .int ru, .int mo, .int lk, .int wn, .int qu, .int bu])), (vl, .inr (11, [.int mv, .ref av, .int (nI vs.length)])), (av, .inl (Y.2.1 2, cv, .inr (.inr (.inr (.inr (fun k => vs[k]?)))))), (co, .inl (Y.2.1 4, 6, .inr (.inr (.inr (.inr (fun l => some (ca l))))))), (lf, .inr (11, [.int 0, .ref (Y.2.2.2.1 100), .int 0]))] ++ (KT Y ak ck ks ++ va_pl L f)) H locs := hW
  refine W.eq (g2 := F0 m 31 ls [.ref it]) rfl ?_
  have hW : Wd Dd A s.heap ([(rb, .inr (5, [.ref vl, .ref kl, .ref co, .int ru, .int mo, .int lk, .int wn, .int qu, .int bu])), (vl, .inr (11, [.int mv, .ref av, .int (nI vs.length)])), (av, .inl (Y.2.1 2, cv, .inr (.inr (.inr (.inr (fun k => vs[k]?)))))), (kl, .inr (11, [.int mk, .ref ak, .int (nI ks.length)])), (co, .inl (Y.2.1 4, 6, .inr (.inr (.inr (.inr (fun l => some (ca l))))))), (lf, .inr (11, [.int 0, .ref (Y.2.2.2.1 100), .int 0])), (it, .inr (10, [.int 0, .int (-1), .int mk, .ref kl]))] ++ (KT Y ak ck ks ++ va_pl L f)) H locs := hW.permA (pmq40 _ _ _ _ _ _ _ _)
  refine lv_astore (lv' := [(4, .ref it), (3, .ref lf), (2, .ref v), (0, .ref rb), (1, .int (nI x))]) hx hb dX5_take_31 hl (by decide) rfl (fun ls hl => ?_)
  have hl : lv_has ls 6 [(4, .ref it), (0, .ref rb), (1, .int (nI x)), (2, .ref v), (3, .ref lf)] := lv_sub hl [0, 3, 4, 2, 1] rfl
  have hW : Wd Dd A s.heap ([(rb, .inr (5, [.ref vl, .ref kl, .ref co, .int ru, .int mo, .int lk, .int wn, .int qu, .int bu])), (vl, .inr (11, [.int mv, .ref av, .int (nI vs.length)])), (av, .inl (Y.2.1 2, cv, .inr (.inr (.inr (.inr (fun k => vs[k]?)))))), (kl, .inr (11, [.int mk, .ref ak, .int (nI ks.length)])), (co, .inl (Y.2.1 4, 6, .inr (.inr (.inr (.inr (fun l => some (ca l))))))), (lf, .inr (11, [.int 0, .ref (Y.2.2.2.1 100), .int 0])), (it, .inr (10, [.int 0, .int (-1), .int mk, .ref kl]))] ++ ((KT Y ak ck ks ++ KT Y (Y.2.2.2.1 100) 0 []) ++ va_pl L f)) H locs := by
      rw [show KT Y (Y.2.2.2.1 100) 0 [] = [] from if_pos rfl, List.append_nil]
      exact hW
  have lpa : ∀ (d : Nat) (ku : Nat) (la : Int32) (ml : Int32) (al : Nat) (cl_ : Nat) (xs : List Nat) (f1 : Nat → va_E) (H : Heap) (locs : List Loc) (ls : Array Slot), (hk : ku ≤ ks.length) → (hkl : okL Y al cl_ xs) → (hT : TKI f f1 v (vs.getD (x + 1) 0) (vs.getD (x - 1) 0) ks ku xs) → (ks.length < d + ku) → lv_has ls 6 [(4, .ref it), (0, .ref rb), (1, .int (nI x)), (2, .ref v), (3, .ref lf)] → Wd Dd A s.heap ([(rb, .inr (5, [.ref vl, .ref kl, .ref co, .int ru, .int mo, .int lk, .int wn, .int qu, .int bu])), (vl, .inr (11, [.int mv, .ref av, .int (nI vs.length)])), (av, .inl (Y.2.1 2, cv, .inr (.inr (.inr (.inr (fun k => vs[k]?)))))), (kl, .inr (11, [.int mk, .ref ak, .int (nI ks.length)])), (co, .inl (Y.2.1 4, 6, .inr (.inr (.inr (.inr (fun l => some (ca l))))))), (lf, .inr (11, [.int ml, .ref al, .int (nI xs.length)])), (it, .inr (10, [.int (nI ku), .int la, .int mk, .ref kl]))] ++ ((KT Y ak ck ks ++ KT Y al cl_ xs) ++ va_pl L f1)) H locs → W p₀ l e₀ rmX5_take s m args below meth c₀ H locs (2 + ku) (7 + 1000 * ku) Q (F0 m 33 ls []) := by
    intro d
    induction d with
    | zero => intro ku la ml al cl_ xs f1 H locs ls hk hkl hT hfu; exact absurd hfu (by omega)
    | succ d ih =>
      intro ku la ml al cl_ xs f1 H locs ls hk hkl hT hfu hl hW
      have hv1 := hT.vo hS hvo
      have hxl := hT.len
      refine lv_aload hx hb dX5_take_33 (lv_at hl 0 rfl) ?_
      refine rF_ (As := []) (rest := []) (wc := [(it, .inr (10, [.int (nI ku), .int la, .int mk, .ref kl])), (kl, .inr (11, [.int mk, .ref ak, .int (nI ks.length)]))]) (w9 := [(rb, .inr (5, [.ref vl, .ref kl, .ref co, .int ru, .int mo, .int lk, .int wn, .int qu, .int bu])), (vl, .inr (11, [.int mv, .ref av, .int (nI vs.length)])), (av, .inl (Y.2.1 2, cv, .inr (.inr (.inr (.inr (fun k => vs[k]?)))))), (co, .inl (Y.2.1 4, 6, .inr (.inr (.inr (.inr (fun l => some (ca l))))))), (lf, .inr (11, [.int ml, .ref al, .int (nI xs.length)]))] ++ ((KT Y ak ck ks ++ KT Y al cl_ xs) ++ va_pl L f1)) X 0 (kJx35411_hasNext_aae02 l Dd Y it kl ku ks.length la mk (.ref ak) hk (by omega)) gX5_take_Jx35411_hasNext_aae02_f55Jx35411 rfl rfl rfl (by decide +kernel) (by decide +kernel) ⟨(Nat.le_of_ble_eq_true rfl), (Nat.le_of_ble_eq_true rfl)⟩ hW (pmq41 _ _ _ _ _ _ _ _) 0 10 rfl rfl rfl rfl hl.1 rfl (Nat.le_of_ble_eq_true rfl) dX5_take_35 ⟨(by show (2 + ku) + 0 ≤ 20; omega), (by show (7 + 1000 * ku) + 0 ≤ 17000; omega)⟩ (fun rv wq H locs hp hW => ?_)
      obtain ⟨rfl, rfl⟩ := hp
      have hW : Wd Dd A s.heap ([(it, .inr (10, [.int (nI ku), .int la, .int mk, .ref kl])), (kl, .inr (11, [.int mk, .ref ak, .int (nI ks.length)])), (rb, .inr (5, [.ref vl, .ref kl, .ref co, .int ru, .int mo, .int lk, .int wn, .int qu, .int bu])), (vl, .inr (11, [.int mv, .ref av, .int (nI vs.length)])), (av, .inl (Y.2.1 2, cv, .inr (.inr (.inr (.inr (fun k => vs[k]?)))))), (co, .inl (Y.2.1 4, 6, .inr (.inr (.inr (.inr (fun l => some (ca l))))))), (lf, .inr (11, [.int ml, .ref al, .int (nI xs.length)]))] ++ ((KT Y ak ck ks ++ KT Y al cl_ xs) ++ va_pl L f1)) H locs := hW
      have hW : Wd Dd A s.heap ([(rb, .inr (5, [.ref vl, .ref kl, .ref co, .int ru, .int mo, .int lk, .int wn, .int qu, .int bu])), (vl, .inr (11, [.int mv, .ref av, .int (nI vs.length)])), (av, .inl (Y.2.1 2, cv, .inr (.inr (.inr (.inr (fun k => vs[k]?)))))), (kl, .inr (11, [.int mk, .ref ak, .int (nI ks.length)])), (co, .inl (Y.2.1 4, 6, .inr (.inr (.inr (.inr (fun l => some (ca l))))))), (lf, .inr (11, [.int ml, .ref al, .int (nI xs.length)])), (it, .inr (10, [.int (nI ku), .int la, .int mk, .ref kl]))] ++ ((KT Y ak ck ks ++ KT Y al cl_ xs) ++ va_pl L f1)) H locs := hW.permA (pmq40 _ _ _ _ _ _ _ _)
      refine W.eq (g2 := F0 m 40 ls [.int (if ku < ks.length then 1 else 0)]) rfl ?_
      refine lv_if_eq (tgt := 146) hx hb dX5_take_40 (by decide) (fun cq => ?_) (fun cq => ?_)
      · have e : ku = ks.length := by have := hn_0 cq; omega
        rw [e] at hT
        refine lv_aload_n hx hb dX5_take_146 rfl (lv_at hl 1 rfl) ?_
        refine g_ X hinX5 hW 0 rfl rfl 1 (by decide) 6 rfl rfl rfl dX5_take_147 ?_
        refine rF_ (As := []) (rest := []) (wc := (kl, .inr (11, [.int mk, .ref ak, .int (nI ks.length)])) :: KT Y ak ck ks) (w9 := [(rb, .inr (5, [.ref vl, .ref kl, .ref co, .int ru, .int mo, .int lk, .int wn, .int qu, .int bu])), (vl, .inr (11, [.int mv, .ref av, .int (nI vs.length)])), (av, .inl (Y.2.1 2, cv, .inr (.inr (.inr (.inr (fun k => vs[k]?)))))), (co, .inl (Y.2.1 4, 6, .inr (.inr (.inr (.inr (fun l => some (ca l))))))), (lf, .inr (11, [.int ml, .ref al, .int (nI xs.length)])), (it, .inr (10, [.int (nI ku), .int la, .int mk, .ref kl]))] ++ (KT Y al cl_ xs ++ va_pl L f1)) X 0 (kClrL l Dd Y kl ak ck mk ks hKk) gX5_take_Jx4a65c_clear_da8c8_f119Jx4a65c rfl rfl rfl (by decide +kernel) (by decide +kernel) ⟨(Nat.le_of_ble_eq_true rfl), (Nat.le_of_ble_eq_true rfl)⟩ hW (pmq42 _ _ _ _ _ _ _ _ _ _) 0 11 rfl rfl rfl rfl hl.1 rfl (Nat.le_of_ble_eq_true rfl) dX5_take_150 ⟨(by show (2 + ku) + 0 ≤ 20; omega), (by show (7 + 1000 * ku) + 0 ≤ 17000; omega)⟩ (fun rv wq H locs hp hW => ?_)
        obtain ⟨rfl, mk2, hKk0, rfl⟩ := hp
        have hW : Wd Dd A s.heap ([(rb, .inr (5, [.ref vl, .ref kl, .ref co, .int ru, .int mo, .int lk, .int wn, .int qu, .int bu])), (vl, .inr (11, [.int mv, .ref av, .int (nI vs.length)])), (av, .inl (Y.2.1 2, cv, .inr (.inr (.inr (.inr (fun k => vs[k]?)))))), (kl, .inr (11, [.int mk2, .ref ak, .int (nI ([] : List Nat).length)])), (co, .inl (Y.2.1 4, 6, .inr (.inr (.inr (.inr (fun l => some (ca l))))))), (lf, .inr (11, [.int ml, .ref al, .int (nI xs.length)])), (it, .inr (10, [.int (nI ku), .int la, .int mk, .ref kl]))] ++ ((KT Y ak ck [] ++ KT Y al cl_ xs) ++ va_pl L f1)) H locs := hW.permA (pmq43 _ _ _ _ _ _ _ _ _ _)
        refine W.eq (g2 := F0 m 155 ls []) rfl ?_
        have hW : Wd Dd A s.heap ([(rb, .inr (5, [.ref vl, .ref kl, .ref co, .int ru, .int mo, .int lk, .int wn, .int qu, .int bu])), (vl, .inr (11, [.int mv, .ref av, .int (nI vs.length)])), (av, .inl (Y.2.1 2, cv, .inr (.inr (.inr (.inr (fun k => vs[k]?)))))), (kl, .inr (11, [.int mk2, .ref ak, .int (nI ([] : List Nat).length)])), (co, .inl (Y.2.1 4, 6, .inr (.inr (.inr (.inr (fun l => some (ca l))))))), (lf, .inr (11, [.int ml, .ref al, .int (nI xs.length)]))] ++ ((KT Y ak ck [] ++ KT Y al cl_ xs) ++ va_pl L f1)) H locs := (hW.permA (pmq44 _ _ _ _ _ _ _ _)).drop
        refine lv_aload_n hx hb dX5_take_155 rfl (lv_at hl 4 rfl) ?_
        refine rF_ (As := []) (rest := []) (wc := [(lf, .inr (11, [.int ml, .ref al, .int (nI xs.length)]))]) (w9 := [(rb, .inr (5, [.ref vl, .ref kl, .ref co, .int ru, .int mo, .int lk, .int wn, .int qu, .int bu])), (vl, .inr (11, [.int mv, .ref av, .int (nI vs.length)])), (av, .inl (Y.2.1 2, cv, .inr (.inr (.inr (.inr (fun k => vs[k]?)))))), (kl, .inr (11, [.int mk2, .ref ak, .int (nI ([] : List Nat).length)])), (co, .inl (Y.2.1 4, 6, .inr (.inr (.inr (.inr (fun l => some (ca l)))))))] ++ ((KT Y ak ck [] ++ KT Y al cl_ xs) ++ va_pl L f1)) X 0 (kJx4a65c_iterator_32c93 l Dd Y lf ml (nI xs.length) (.ref al)) gX5_take_Jx4a65c_iterator_32c93_f51Jx4a65c rfl rfl rfl (by decide +kernel) (by decide +kernel) ⟨(Nat.le_of_ble_eq_true rfl), (Nat.le_of_ble_eq_true rfl)⟩ hW (pmq35 _ _ _ _ _ _ _) 0 11 rfl rfl rfl rfl hl.1 rfl (Nat.le_of_ble_eq_true rfl) dX5_take_156 ⟨(by show (2 + ku) + 1 ≤ 20; omega), (by show (7 + 1000 * ku) + 4 ≤ 17000; omega)⟩ (fun rv wq H locs hp hW => ?_)
        obtain ⟨it2, rfl, rfl⟩ := hp
        have hW : Wd Dd A s.heap ([(it2, .inr (10, [.int 0, .int (-1), .int ml, .ref lf])), (lf, .inr (11, [.int ml, .ref al, .int (nI xs.length)])), (rb, .inr (5, [.ref vl, .ref kl, .ref co, .int ru, .int mo, .int lk, .int wn, .int qu, .int bu])), (vl, .inr (11, [.int mv, .ref av, .int (nI vs.length)])), (av, .inl (Y.2.1 2, cv, .inr (.inr (.inr (.inr (fun k => vs[k]?)))))), (kl, .inr (11, [.int mk2, .ref ak, .int (nI ([] : List Nat).length)])), (co, .inl (Y.2.1 4, 6, .inr (.inr (.inr (.inr (fun l => some (ca l)))))))] ++ ((KT Y ak ck [] ++ KT Y al cl_ xs) ++ va_pl L f1)) H locs := hW
        refine W.eq (g2 := F0 m 161 ls [.ref it2]) rfl ?_
        have hW : Wd Dd A s.heap ([(rb, .inr (5, [.ref vl, .ref kl, .ref co, .int ru, .int mo, .int lk, .int wn, .int qu, .int bu])), (vl, .inr (11, [.int mv, .ref av, .int (nI vs.length)])), (av, .inl (Y.2.1 2, cv, .inr (.inr (.inr (.inr (fun k => vs[k]?)))))), (kl, .inr (11, [.int mk2, .ref ak, .int (nI ([] : List Nat).length)])), (co, .inl (Y.2.1 4, 6, .inr (.inr (.inr (.inr (fun l => some (ca l))))))), (lf, .inr (11, [.int ml, .ref al, .int (nI xs.length)])), (it2, .inr (10, [.int 0, .int (-1), .int ml, .ref lf]))] ++ ((KT Y ak ck [] ++ KT Y al cl_ xs) ++ va_pl L f1)) H locs := hW.permA (pmq45 _ _ _ _ _ _ _ _)
        refine lv_astore (lv' := [(4, .ref it2), (0, .ref rb), (1, .int (nI x)), (2, .ref v), (3, .ref lf)]) hx hb dX5_take_161 hl (by decide) rfl (fun ls hl => ?_)
        have lpb : ∀ (d : Nat) (kj : Nat) (la2 : Int32) (mk3 : Int32) (ak2 : Nat) (ck2 : Nat) (H : Heap) (locs : List Loc) (ls : Array Slot), (hj : kj ≤ xs.length) → (hkk : okL Y ak2 ck2 (xs.take kj)) → (xs.length < d + kj) → lv_has ls 6 [(4, .ref it2), (0, .ref rb), (1, .int (nI x)), (2, .ref v), (3, .ref lf)] → Wd Dd A s.heap ([(rb, .inr (5, [.ref vl, .ref kl, .ref co, .int ru, .int mo, .int lk, .int wn, .int qu, .int bu])), (vl, .inr (11, [.int mv, .ref av, .int (nI vs.length)])), (av, .inl (Y.2.1 2, cv, .inr (.inr (.inr (.inr (fun k => vs[k]?)))))), (kl, .inr (11, [.int mk3, .ref ak2, .int (nI (xs.take kj).length)])), (co, .inl (Y.2.1 4, 6, .inr (.inr (.inr (.inr (fun l => some (ca l))))))), (lf, .inr (11, [.int ml, .ref al, .int (nI xs.length)])), (it2, .inr (10, [.int (nI kj), .int la2, .int ml, .ref lf]))] ++ ((KT Y ak2 ck2 (xs.take kj) ++ KT Y al cl_ xs) ++ va_pl L f1)) H locs → W p₀ l e₀ rmX5_take s m args below meth c₀ H locs (11 + kj) (8011 + 1000 * kj) Q (F0 m 163 ls []) := by
          intro d
          induction d with
          | zero => intro kj la2 mk3 ak2 ck2 H locs ls hj hkk hfu; exact absurd hfu (by omega)
          | succ d ihb =>
            intro kj la2 mk3 ak2 ck2 H locs ls hj hkk hfu hl hW
            refine lv_aload hx hb dX5_take_163 (lv_at hl 0 rfl) ?_
            refine rF_ (As := []) (rest := []) (wc := [(it2, .inr (10, [.int (nI kj), .int la2, .int ml, .ref lf])), (lf, .inr (11, [.int ml, .ref al, .int (nI xs.length)]))]) (w9 := [(rb, .inr (5, [.ref vl, .ref kl, .ref co, .int ru, .int mo, .int lk, .int wn, .int qu, .int bu])), (vl, .inr (11, [.int mv, .ref av, .int (nI vs.length)])), (av, .inl (Y.2.1 2, cv, .inr (.inr (.inr (.inr (fun k => vs[k]?)))))), (kl, .inr (11, [.int mk3, .ref ak2, .int (nI (xs.take kj).length)])), (co, .inl (Y.2.1 4, 6, .inr (.inr (.inr (.inr (fun l => some (ca l)))))))] ++ ((KT Y ak2 ck2 (xs.take kj) ++ KT Y al cl_ xs) ++ va_pl L f1)) X 0 (kJx35411_hasNext_aae02 l Dd Y it2 lf kj xs.length la2 ml (.ref al) hj (by omega)) gX5_take_Jx35411_hasNext_aae02_f55Jx35411 rfl rfl rfl (by decide +kernel) (by decide +kernel) ⟨(Nat.le_of_ble_eq_true rfl), (Nat.le_of_ble_eq_true rfl)⟩ hW (pmq46 _ _ _ _ _ _ _ _) 0 10 rfl rfl rfl rfl hl.1 rfl (Nat.le_of_ble_eq_true rfl) dX5_take_165 ⟨(by show (11 + kj) + 0 ≤ 20; omega), (by show (8011 + 1000 * kj) + 0 ≤ 17000; omega)⟩ (fun rv wq H locs hp hW => ?_)
            obtain ⟨rfl, rfl⟩ := hp
            have hW : Wd Dd A s.heap ([(it2, .inr (10, [.int (nI kj), .int la2, .int ml, .ref lf])), (lf, .inr (11, [.int ml, .ref al, .int (nI xs.length)])), (rb, .inr (5, [.ref vl, .ref kl, .ref co, .int ru, .int mo, .int lk, .int wn, .int qu, .int bu])), (vl, .inr (11, [.int mv, .ref av, .int (nI vs.length)])), (av, .inl (Y.2.1 2, cv, .inr (.inr (.inr (.inr (fun k => vs[k]?)))))), (kl, .inr (11, [.int mk3, .ref ak2, .int (nI (xs.take kj).length)])), (co, .inl (Y.2.1 4, 6, .inr (.inr (.inr (.inr (fun l => some (ca l)))))))] ++ ((KT Y ak2 ck2 (xs.take kj) ++ KT Y al cl_ xs) ++ va_pl L f1)) H locs := hW
            have hW : Wd Dd A s.heap ([(rb, .inr (5, [.ref vl, .ref kl, .ref co, .int ru, .int mo, .int lk, .int wn, .int qu, .int bu])), (vl, .inr (11, [.int mv, .ref av, .int (nI vs.length)])), (av, .inl (Y.2.1 2, cv, .inr (.inr (.inr (.inr (fun k => vs[k]?)))))), (kl, .inr (11, [.int mk3, .ref ak2, .int (nI (xs.take kj).length)])), (co, .inl (Y.2.1 4, 6, .inr (.inr (.inr (.inr (fun l => some (ca l))))))), (lf, .inr (11, [.int ml, .ref al, .int (nI xs.length)])), (it2, .inr (10, [.int (nI kj), .int la2, .int ml, .ref lf]))] ++ ((KT Y ak2 ck2 (xs.take kj) ++ KT Y al cl_ xs) ++ va_pl L f1)) H locs := hW.permA (pmq45 _ _ _ _ _ _ _ _)
            refine W.eq (g2 := F0 m 170 ls [.int (if kj < xs.length then 1 else 0)]) rfl ?_
            refine lv_if_eq (tgt := 200) hx hb dX5_take_170 (by decide) (fun cz => ?_) (fun cz => ?_)
            · have e2 : kj = xs.length := by have := hn_0 cz; omega
              rw [e2, List.take_length] at hkk hW
              have hW : Wd Dd A s.heap ([(rb, .inr (5, [.ref vl, .ref kl, .ref co, .int ru, .int mo, .int lk, .int wn, .int qu, .int bu])), (vl, .inr (11, [.int mv, .ref av, .int (nI vs.length)])), (av, .inl (Y.2.1 2, cv, .inr (.inr (.inr (.inr (fun k => vs[k]?)))))), (kl, .inr (11, [.int mk3, .ref ak2, .int (nI xs.length)])), (co, .inl (Y.2.1 4, 6, .inr (.inr (.inr (.inr (fun l => some (ca l))))))), (lf, .inr (11, [.int ml, .ref al, .int (nI xs.length)])), (it2, .inr (10, [.int (nI kj), .int la2, .int ml, .ref lf]))] ++ ((KT Y ak2 ck2 xs ++ KT Y al cl_ xs) ++ va_pl L f1)) H locs := by rw [e2]; exact hW
              have hW : Wd Dd A s.heap ([(rb, .inr (5, [.ref vl, .ref kl, .ref co, .int ru, .int mo, .int lk, .int wn, .int qu, .int bu])), (vl, .inr (11, [.int mv, .ref av, .int (nI vs.length)])), (av, .inl (Y.2.1 2, cv, .inr (.inr (.inr (.inr (fun k => vs[k]?)))))), (kl, .inr (11, [.int mk3, .ref ak2, .int (nI xs.length)])), (co, .inl (Y.2.1 4, 6, .inr (.inr (.inr (.inr (fun l => some (ca l))))))), (lf, .inr (11, [.int ml, .ref al, .int (nI xs.length)]))] ++ ((KT Y ak2 ck2 xs ++ KT Y al cl_ xs) ++ va_pl L f1)) H locs := (hW.permA (pmq44 _ _ _ _ _ _ _ _)).drop
              have hW : Wd Dd A s.heap ([(rb, .inr (5, [.ref vl, .ref kl, .ref co, .int ru, .int mo, .int lk, .int wn, .int qu, .int bu])), (vl, .inr (11, [.int mv, .ref av, .int (nI vs.length)])), (av, .inl (Y.2.1 2, cv, .inr (.inr (.inr (.inr (fun k => vs[k]?)))))), (kl, .inr (11, [.int mk3, .ref ak2, .int (nI xs.length)])), (co, .inl (Y.2.1 4, 6, .inr (.inr (.inr (.inr (fun l => some (ca l)))))))] ++ ((KT Y ak2 ck2 xs ++ KT Y al cl_ xs) ++ va_pl L f1)) H locs := (hW.permA (pmq32 _ _ _ _ _ _ _)).drop
              have hW := hW.permA (pmq47 _ _ _ _ _ _ _ _)
              have hW : Wd Dd A s.heap ([(rb, .inr (5, [.ref vl, .ref kl, .ref co, .int ru, .int mo, .int lk, .int wn, .int qu, .int bu])), (vl, .inr (11, [.int mv, .ref av, .int (nI vs.length)])), (av, .inl (Y.2.1 2, cv, .inr (.inr (.inr (.inr (fun k => vs[k]?)))))), (kl, .inr (11, [.int mk3, .ref ak2, .int (nI xs.length)])), (co, .inl (Y.2.1 4, 6, .inr (.inr (.inr (.inr (fun l => some (ca l)))))))] ++ (KT Y ak2 ck2 xs ++ va_pl L f1)) H locs := hW.drop
              refine lv_aload_n hx hb dX5_take_200 rfl (lv_at hl 1 rfl) ?_
              refine g_ X hinX5 hW 0 rfl rfl 0 (by decide) 1 rfl rfl rfl dX5_take_201 ?_
              refine lv_iload_n hx hb dX5_take_204 rfl (lv_at hl 2 rfl) ?_
              have hmem : ∀ a ∈ vs, inx ([(rb, .inr (5, [.ref vl, .ref kl, .ref co, .int ru, .int mo, .int lk, .int wn, .int qu, .int bu])), (kl, .inr (11, [.int mk3, .ref ak2, .int (nI xs.length)])), (co, .inl (Y.2.1 4, 6, .inr (.inr (.inr (.inr (fun l => some (ca l)))))))] ++ (KT Y ak2 ck2 xs ++ va_pl L f1)) a := fun a ha => inx_v (hv1.2 a ha)
              refine rF_ (As := [.int (nI x)]) (rest := []) (wc := WLs Y vl mv av cv vs ++ ([(rb, .inr (5, [.ref vl, .ref kl, .ref co, .int ru, .int mo, .int lk, .int wn, .int qu, .int bu])), (kl, .inr (11, [.int mk3, .ref ak2, .int (nI xs.length)])), (co, .inl (Y.2.1 4, 6, .inr (.inr (.inr (.inr (fun l => some (ca l)))))))] ++ (KT Y ak2 ck2 xs ++ va_pl L f1))) (w9 := []) X 1 (kRem l Dd Y vl av cv x v mv vs ([(rb, .inr (5, [.ref vl, .ref kl, .ref co, .int ru, .int mo, .int lk, .int wn, .int qu, .int bu])), (kl, .inr (11, [.int mk3, .ref ak2, .int (nI xs.length)])), (co, .inl (Y.2.1 4, 6, .inr (.inr (.inr (.inr (fun l => some (ca l)))))))] ++ (KT Y ak2 ck2 xs ++ va_pl L f1)) hK hmem hxn hx0) gX5_take_Jx4a65c_remove_915e3_f122Jx4a65c rfl rfl rfl (by decide +kernel) (by decide +kernel) ⟨(Nat.le_of_ble_eq_true rfl), (Nat.le_of_ble_eq_true rfl)⟩ hW (by rw [WLs_s _ _ _ (show 0 < cv by have := hK.2.1; omega)]; exact (pmq37 _ _ _ _ _ _)) 0 11 rfl rfl rfl rfl hl.1 rfl (Nat.le_of_ble_eq_true rfl) dX5_take_205 ⟨(by show (11 + kj) + 0 ≤ 20; omega), (by show (8011 + 1000 * kj) + 0 ≤ 17000; omega)⟩ (fun rv wq H locs hp hW => ?_)
              obtain ⟨rfl, mv', rfl⟩ := hp
              have hW : Wd Dd A s.heap ([(rb, .inr (5, [.ref vl, .ref kl, .ref co, .int ru, .int mo, .int lk, .int wn, .int qu, .int bu])), (vl, .inr (11, [.int mv', .ref av, .int (nI (vs.eraseIdx x).length)])), (av, .inl (Y.2.1 2, cv, .inr (.inr (.inr (.inr (fun k => (vs.eraseIdx x)[k]?)))))), (kl, .inr (11, [.int mk3, .ref ak2, .int (nI xs.length)])), (co, .inl (Y.2.1 4, 6, .inr (.inr (.inr (.inr (fun l => some (ca l)))))))] ++ (KT Y ak2 ck2 xs ++ va_pl L f1)) H locs := by
                  rw [WLs_s _ _ _ (show 0 < cv by have := hK.2.1; omega)] at hW
                  exact hW.permA (pmq38 _ _ _ _ _ _)
              refine W.eq (g2 := F0 m 210 ls [.ref v]) rfl ?_
              refine vCa_ X hW (hv1.at hx0) (i := 2) rfl dX5_take_210 ?_
              refine lv_astore (lv' := [(4, .ref v), (0, .ref rb), (1, .int (nI x)), (2, .ref v), (3, .ref lf)]) hx hb dX5_take_213 hl (by decide) rfl (fun ls hl => ?_)
              refine lv_aload_n hx hb dX5_take_215 rfl (lv_at hl 1 rfl) ?_
              have hlen : (vs.eraseIdx x).length = vs.length - 1 := List.length_eraseIdx_of_lt hxn
              refine rV_ (As := []) (rest := []) (wc := [(rb, .inr (5, [.ref vl, .ref kl, .ref co, .int ru, .int mo, .int lk, .int wn, .int qu, .int bu])), (vl, .inr (11, [.int mv', .ref av, .int (nI (vs.eraseIdx x).length)])), (av, .inl (Y.2.1 2, cv, .inr (.inr (.inr (.inr (fun k => (vs.eraseIdx x)[k]?)))))), (kl, .inr (11, [.int mk3, .ref ak2, .int (nI xs.length)])), (co, .inl (Y.2.1 4, 6, .inr (.inr (.inr (.inr (fun l => some (ca l)))))))] ++ (KT Y ak2 ck2 xs ++ va_pl L f1)) (w9 := []) X (kX5_build l Dd Y rb vl kl co av cv ak2 ck2 ca (vs.eraseIdx x) xs L f1 ru mo lk wn qu bu mv' mk3 (remG g x) (hT.ng hS hvo hg).er (by rw [hlen]; omega) hv1.er (hT.co hS hO) (by omega)) (cwV 0 X.1.2.2.2.2 gX5_take_X5_build rfl rfl rfl (by decide +kernel) ⟨(Nat.le_of_ble_eq_true rfl), (Nat.le_of_ble_eq_true rfl)⟩) hW (by rw [List.append_nil]) 0 5 rfl rfl rfl rfl hl.1 rfl (Nat.le_of_ble_eq_true rfl) dX5_take_216 ⟨(by show (11 + kj) + 1 ≤ 20; omega), (by show (8011 + 1000 * kj) + 4 ≤ 17000; omega)⟩ (fun rv wq H locs hp hW => ?_)
              obtain ⟨f', hf', rfl, rfl⟩ := hp
              have hW : Wd Dd A s.heap ([(rb, .inr (5, [.ref vl, .ref kl, .ref co, .int ru, .int mo, .int lk, .int (wn + nI (cs (fun l => (vs.eraseIdx x).length + 1 - 2 ^ l) 5)), .int qu, .int (bu + 1)])), (vl, .inr (11, [.int mv', .ref av, .int (nI (vs.eraseIdx x).length)])), (av, .inl (Y.2.1 2, cv, .inr (.inr (.inr (.inr (fun k => (vs.eraseIdx x)[k]?)))))), (kl, .inr (11, [.int mk3, .ref ak2, .int (nI xs.length)])), (co, .inl (Y.2.1 4, 6, .inr (.inr (.inr (.inr (fun l => some (ca l)))))))] ++ (KT Y ak2 ck2 xs ++ va_pl L f')) H locs := by rw [List.append_nil] at hW; exact hW
              refine W.eq (g2 := F0 m 219 ls []) rfl ?_
              have hv2 : VO L (vs.eraseIdx x) f' := BLD.vo hf' hv1.er
              have hfv : f' v = f v := by
                  rw [hf'.1 v (fun q => by
                    obtain ⟨p, hp⟩ := List.getElem?_of_mem q
                    rw [List.getElem?_eraseIdx] at hp
                    split at hp
                    · have := vs_inj hvo.1 hp hx0; omega
                    · have := vs_inj hvo.1 hp hx0; omega) (fun l hl => hvo.ne hO (List.mem_of_getElem? hx0) l hl)]
                  exact hT.o hS (fun k => V_S (hvo.at hx0).2 k)
              refine lv_aload_n hx hb dX5_take_219 rfl (lv_at hl 3 rfl) ?_
              refine gVn_ X hinX7 hW (show v ∈ L ∧ isV (f' v) from ⟨(hvo.at hx0).1, by rw [hfv]; exact (hvo.at hx0).2⟩) dX5_take_220 ?_
              rw [hfv]
              exact hI _ _ _ _ _ _ _ _ _ ⟨rfl, xs, f1, f', mv', mk3, ak2, ck2, hT, hkk, hf', rfl⟩ rfl rfl (by show 11 + kj + 1 ≤ 20; omega) (by show 8011 + 1000 * kj + 4 ≤ 17000; omega) hW dX5_take_223
            · have hlt : kj < xs.length := hn_1 cz
              obtain ⟨y, hy⟩ := vs_at hlt
              have hys := hT.s hS (hT.sub (List.mem_of_getElem? hy))
              refine lv_aload hx hb dX5_take_173 (lv_at hl 0 rfl) ?_
              refine rF_ (As := []) (rest := []) (wc := [(it2, .inr (10, [.int (nI kj), .int la2, .int ml, .ref lf])), (lf, .inr (11, [.int ml, .ref al, .int (nI xs.length)]))] ++ KT Y al cl_ xs) (w9 := [(rb, .inr (5, [.ref vl, .ref kl, .ref co, .int ru, .int mo, .int lk, .int wn, .int qu, .int bu])), (vl, .inr (11, [.int mv, .ref av, .int (nI vs.length)])), (av, .inl (Y.2.1 2, cv, .inr (.inr (.inr (.inr (fun k => vs[k]?)))))), (kl, .inr (11, [.int mk3, .ref ak2, .int (nI (xs.take kj).length)])), (co, .inl (Y.2.1 4, 6, .inr (.inr (.inr (.inr (fun l => some (ca l)))))))] ++ (KT Y ak2 ck2 (xs.take kj) ++ va_pl L f1)) X 0 (kNextL l Dd Y it2 lf al cl_ kj la2 ml xs hkl hlt) gX5_take_Jx35411_next_0502b_f61Jx35411 rfl rfl rfl (by decide +kernel) (by decide +kernel) ⟨(Nat.le_of_ble_eq_true rfl), (Nat.le_of_ble_eq_true rfl)⟩ hW (pmq48 _ _ _ _ _ _ _ _ _ _) 0 10 rfl rfl rfl rfl hl.1 rfl (Nat.le_of_ble_eq_true rfl) dX5_take_175 ⟨(by show (11 + kj) + 0 ≤ 20; omega), (by show (8011 + 1000 * kj) + 0 ≤ 17000; omega)⟩ (fun rv wq H locs hp hW => ?_)
              obtain ⟨rfl, rfl⟩ := hp
              have hW : Wd Dd A s.heap ([(rb, .inr (5, [.ref vl, .ref kl, .ref co, .int ru, .int mo, .int lk, .int wn, .int qu, .int bu])), (vl, .inr (11, [.int mv, .ref av, .int (nI vs.length)])), (av, .inl (Y.2.1 2, cv, .inr (.inr (.inr (.inr (fun k => vs[k]?)))))), (kl, .inr (11, [.int mk3, .ref ak2, .int (nI (xs.take kj).length)])), (co, .inl (Y.2.1 4, 6, .inr (.inr (.inr (.inr (fun l => some (ca l))))))), (lf, .inr (11, [.int ml, .ref al, .int (nI xs.length)])), (it2, .inr (10, [.int (nI (kj + 1)), .int (nI kj), .int ml, .ref lf]))] ++ ((KT Y ak2 ck2 (xs.take kj) ++ KT Y al cl_ xs) ++ va_pl L f1)) H locs := hW.permA (pmq49 _ _ _ _ _ _ _ _ _ _)
              refine W.eq (g2 := F0 m 180 ls [va_rf xs[kj]?]) rfl ?_
              rw [hy]
              refine W.eq (g2 := F0 m 180 ls [.ref y]) rfl ?_
              refine sCa_ X hW hys (i := 7) rfl dX5_take_180 ?_
              refine lv_astore (lv' := [(5, .ref y), (4, .ref it2), (0, .ref rb), (1, .int (nI x)), (2, .ref v), (3, .ref lf)]) hx hb dX5_take_183 hl (by decide) rfl (fun ls hl => ?_)
              refine lv_aload_n hx hb dX5_take_185 rfl (lv_at hl 2 rfl) ?_
              refine g_ X hinX5 hW 0 rfl rfl 1 (by decide) 6 rfl rfl rfl dX5_take_186 ?_
              refine lv_aload hx hb dX5_take_189 (lv_at hl 0 rfl) ?_
              have hmx : ∀ a ∈ xs.take kj, a ∈ L ∧ isS (f1 a) := fun a ha => hT.s hS (hT.sub (List.mem_of_mem_take ha))
              refine rF_ (As := [.ref y]) (rest := []) (wc := ((kl, .inr (11, [.int mk3, .ref ak2, .int (nI (xs.take kj).length)])) :: KT Y ak2 ck2 (xs.take kj)) ++ ([(rb, .inr (5, [.ref vl, .ref kl, .ref co, .int ru, .int mo, .int lk, .int wn, .int qu, .int bu])), (vl, .inr (11, [.int mv, .ref av, .int (nI vs.length)])), (av, .inl (Y.2.1 2, cv, .inr (.inr (.inr (.inr (fun k => vs[k]?)))))), (co, .inl (Y.2.1 4, 6, .inr (.inr (.inr (.inr (fun l => some (ca l))))))), (lf, .inr (11, [.int ml, .ref al, .int (nI xs.length)])), (it2, .inr (10, [.int (nI (kj + 1)), .int (nI kj), .int ml, .ref lf]))] ++ (KT Y al cl_ xs ++ va_pl L f1))) (w9 := []) X 1 (kAddL l Dd Y kl ak2 ck2 y mk3 (xs.take kj) ([(rb, .inr (5, [.ref vl, .ref kl, .ref co, .int ru, .int mo, .int lk, .int wn, .int qu, .int bu])), (vl, .inr (11, [.int mv, .ref av, .int (nI vs.length)])), (av, .inl (Y.2.1 2, cv, .inr (.inr (.inr (.inr (fun k => vs[k]?)))))), (co, .inl (Y.2.1 4, 6, .inr (.inr (.inr (.inr (fun l => some (ca l))))))), (lf, .inr (11, [.int ml, .ref al, .int (nI xs.length)])), (it2, .inr (10, [.int (nI (kj + 1)), .int (nI kj), .int ml, .ref lf]))] ++ (KT Y al cl_ xs ++ va_pl L f1)) hkk (fun a ha => inx_s (hmx a ha)) (inx_s hys) (by rw [List.length_take]; omega)) gX5_take_Jx4a65c_add_9ea2d_f116Jx4a65c rfl rfl rfl (by decide +kernel) (by decide +kernel) ⟨(Nat.le_of_ble_eq_true rfl), (Nat.le_of_ble_eq_true rfl)⟩ hW (pmq50 _ _ _ _ _ _ _ _ _ _) 0 11 rfl rfl rfl rfl hl.1 rfl (Nat.le_of_ble_eq_true rfl) dX5_take_191 ⟨(by show (11 + kj) + 1 ≤ 20; omega), (by show (8011 + 1000 * kj) + 1000 ≤ 17000; omega)⟩ (fun rv wq H locs hp hW => ?_)
              obtain ⟨rfl, mk4, ak4, ck4, hc4, hk4, rfl⟩ := hp
              have hW : Wd Dd A s.heap ([(rb, .inr (5, [.ref vl, .ref kl, .ref co, .int ru, .int mo, .int lk, .int wn, .int qu, .int bu])), (vl, .inr (11, [.int mv, .ref av, .int (nI vs.length)])), (av, .inl (Y.2.1 2, cv, .inr (.inr (.inr (.inr (fun k => vs[k]?)))))), (kl, .inr (11, [.int mk4, .ref ak4, .int (nI ((xs.take kj) ++ [y]).length)])), (co, .inl (Y.2.1 4, 6, .inr (.inr (.inr (.inr (fun l => some (ca l))))))), (lf, .inr (11, [.int ml, .ref al, .int (nI xs.length)])), (it2, .inr (10, [.int (nI (kj + 1)), .int (nI kj), .int ml, .ref lf]))] ++ ((KT Y ak4 ck4 ((xs.take kj) ++ [y]) ++ KT Y al cl_ xs) ++ va_pl L f1)) H locs := hW.permA (pmq51 _ _ _ _ _ _ _ _ _ _)
              refine W.eq (g2 := F0 m 196 ls [.int 1]) rfl ?_
              rw [← take_sn hy] at hk4 hW
              refine lv_pop hx hb dX5_take_196 rfl ?_
              refine lv_goto (tgt := 163) hx hb dX5_take_197 (by decide) ?_
              have hl : lv_has ls 6 [(4, .ref it2), (0, .ref rb), (1, .int (nI x)), (2, .ref v), (3, .ref lf)] := lv_sub hl [1, 2, 3, 4, 5] rfl
              refine W.widen (show 11 + kj + 1 ≤ 11 + (kj + 1) from by omega) (show 8011 + 1000 * kj + 1000 ≤ 8011 + 1000 * (kj + 1) from by omega) (ihb (kj + 1) (nI kj) mk4 ak4 ck4 _ _ _ (by omega) hk4 (by omega) hl hW)
        exact W.widen (show 2 + ku + 1 ≤ 11 + 0 from by omega) (show 7 + 1000 * ku + 4 ≤ 8011 + 1000 * 0 from by omega) (lpb (xs.length + 1) 0 (-1) mk2 ak ck _ _ _ (Nat.zero_le _) hKk0 (by omega) hl hW)
      · have hlt : ku < ks.length := hn_1 cq
        obtain ⟨y, hy⟩ := vs_at hlt
        have hys : y ∈ L ∧ isS (f1 y) := hT.s hS (List.mem_of_getElem? hy)
        have hfy : f1 y = f y := hT.at hS.1 hy
        obtain ⟨ia, ib, hab, hia, hib⟩ := hKO y (List.mem_of_getElem? hy)
        refine lv_aload hx hb dX5_take_43 (lv_at hl 0 rfl) ?_
        refine rF_ (As := []) (rest := []) (wc := [(it, .inr (10, [.int (nI ku), .int la, .int mk, .ref kl])), (kl, .inr (11, [.int mk, .ref ak, .int (nI ks.length)]))] ++ KT Y ak ck ks) (w9 := [(rb, .inr (5, [.ref vl, .ref kl, .ref co, .int ru, .int mo, .int lk, .int wn, .int qu, .int bu])), (vl, .inr (11, [.int mv, .ref av, .int (nI vs.length)])), (av, .inl (Y.2.1 2, cv, .inr (.inr (.inr (.inr (fun k => vs[k]?)))))), (co, .inl (Y.2.1 4, 6, .inr (.inr (.inr (.inr (fun l => some (ca l))))))), (lf, .inr (11, [.int ml, .ref al, .int (nI xs.length)]))] ++ (KT Y al cl_ xs ++ va_pl L f1)) X 0 (kNextL l Dd Y it kl ak ck ku la mk ks hKk hlt) gX5_take_Jx35411_next_0502b_f61Jx35411 rfl rfl rfl (by decide +kernel) (by decide +kernel) ⟨(Nat.le_of_ble_eq_true rfl), (Nat.le_of_ble_eq_true rfl)⟩ hW (pmq52 _ _ _ _ _ _ _ _ _ _) 0 10 rfl rfl rfl rfl hl.1 rfl (Nat.le_of_ble_eq_true rfl) dX5_take_45 ⟨(by show (2 + ku) + 0 ≤ 20; omega), (by show (7 + 1000 * ku) + 0 ≤ 17000; omega)⟩ (fun rv wq H locs hp hW => ?_)
        obtain ⟨rfl, rfl⟩ := hp
        have hW : Wd Dd A s.heap ([(rb, .inr (5, [.ref vl, .ref kl, .ref co, .int ru, .int mo, .int lk, .int wn, .int qu, .int bu])), (vl, .inr (11, [.int mv, .ref av, .int (nI vs.length)])), (av, .inl (Y.2.1 2, cv, .inr (.inr (.inr (.inr (fun k => vs[k]?)))))), (kl, .inr (11, [.int mk, .ref ak, .int (nI ks.length)])), (co, .inl (Y.2.1 4, 6, .inr (.inr (.inr (.inr (fun l => some (ca l))))))), (lf, .inr (11, [.int ml, .ref al, .int (nI xs.length)])), (it, .inr (10, [.int (nI (ku + 1)), .int (nI ku), .int mk, .ref kl]))] ++ ((KT Y ak ck ks ++ KT Y al cl_ xs) ++ va_pl L f1)) H locs := hW.permA (pmq53 _ _ _ _ _ _ _ _ _ _)
        refine W.eq (g2 := F0 m 50 ls [va_rf ks[ku]?]) rfl ?_
        rw [hy]
        refine W.eq (g2 := F0 m 50 ls [.ref y]) rfl ?_
        refine sCa_ X hW hys (i := 7) rfl dX5_take_50 ?_
        refine lv_astore (lv' := [(5, .ref y), (4, .ref it), (0, .ref rb), (1, .int (nI x)), (2, .ref v), (3, .ref lf)]) hx hb dX5_take_53 hl (by decide) rfl (fun ls hl => ?_)
        refine lv_aload hx hb dX5_take_55 (lv_at hl 0 rfl) ?_
        refine gSf_ X hinX6 hW hys dX5_take_57 ?_
        refine lv_aload_n hx hb dX5_take_60 rfl (lv_at hl 4 rfl) ?_
        refine lv_acmp_ne (rx := some (frA (f1 y))) (ry := some v) (tgt := 76) hx hb dX5_take_61 (by decide) (fun qa => ?_) (fun qa => ?_)
        · have ea : ¬ frA (f y) = v := fun q => qa (by rw [hfy, q])
          have hd : ¬ tkD f v y = true := fun q => ea (of_decide_eq_true q).1
          refine lv_aload hx hb dX5_take_76 (lv_at hl 0 rfl) ?_
          refine gSf_ X hinX6 hW hys dX5_take_78 ?_
          refine lv_aload_n hx hb dX5_take_81 rfl (lv_at hl 4 rfl) ?_
          refine lv_acmp_ne (rx := some (frA (f1 y))) (ry := some v) (tgt := 105) hx hb dX5_take_82 (by decide) (fun qc => ?_) (fun qc => ?_)
          · refine lv_aload hx hb dX5_take_105 (lv_at hl 0 rfl) ?_
            refine gSt_ X hinX6 hW hys dX5_take_107 ?_
            refine lv_aload_n hx hb dX5_take_110 rfl (lv_at hl 4 rfl) ?_
            refine lv_acmp_ne (rx := some (toA (f1 y))) (ry := some v) (tgt := 134) hx hb dX5_take_111 (by decide) (fun qd => ?_) (fun qd => ?_)
            · have eb : ¬ toA (f y) = v := fun q => qd (by rw [hfy, q])
              have hup : va_up f1 y (tkE f v (vs.getD (x + 1) 0) (vs.getD (x - 1) 0) y) = f1 := by
                  funext a
                  unfold va_up
                  split
                  · rename_i h; rw [h, hfy]; unfold tkE; rw [if_neg ea, if_neg eb]; exact (hS.2 y (List.mem_of_getElem? hy)).2.symm
                  · rfl
              refine lv_aload_n hx hb dX5_take_134 rfl (lv_at hl 5 rfl) ?_
              refine lv_aload hx hb dX5_take_135 (lv_at hl 0 rfl) ?_
              have hmx : ∀ a ∈ xs, a ∈ L ∧ isS (f1 a) := fun a ha => hT.s hS (hT.sub ha)
              refine rF_ (As := [.ref y]) (rest := []) (wc := ((lf, .inr (11, [.int ml, .ref al, .int (nI xs.length)])) :: KT Y al cl_ xs) ++ ([(rb, .inr (5, [.ref vl, .ref kl, .ref co, .int ru, .int mo, .int lk, .int wn, .int qu, .int bu])), (vl, .inr (11, [.int mv, .ref av, .int (nI vs.length)])), (av, .inl (Y.2.1 2, cv, .inr (.inr (.inr (.inr (fun k => vs[k]?)))))), (kl, .inr (11, [.int mk, .ref ak, .int (nI ks.length)])), (co, .inl (Y.2.1 4, 6, .inr (.inr (.inr (.inr (fun l => some (ca l))))))), (it, .inr (10, [.int (nI (ku + 1)), .int (nI ku), .int mk, .ref kl]))] ++ (KT Y ak ck ks ++ va_pl L f1))) (w9 := []) X 1 (kAddL l Dd Y lf al cl_ y ml xs ([(rb, .inr (5, [.ref vl, .ref kl, .ref co, .int ru, .int mo, .int lk, .int wn, .int qu, .int bu])), (vl, .inr (11, [.int mv, .ref av, .int (nI vs.length)])), (av, .inl (Y.2.1 2, cv, .inr (.inr (.inr (.inr (fun k => vs[k]?)))))), (kl, .inr (11, [.int mk, .ref ak, .int (nI ks.length)])), (co, .inl (Y.2.1 4, 6, .inr (.inr (.inr (.inr (fun l => some (ca l))))))), (it, .inr (10, [.int (nI (ku + 1)), .int (nI ku), .int mk, .ref kl]))] ++ (KT Y ak ck ks ++ va_pl L f1)) hkl (fun a ha => inx_s (hmx a ha)) (inx_s hys) (by omega)) gX5_take_Jx4a65c_add_9ea2d_f116Jx4a65c rfl rfl rfl (by decide +kernel) (by decide +kernel) ⟨(Nat.le_of_ble_eq_true rfl), (Nat.le_of_ble_eq_true rfl)⟩ hW (pmq56 _ _ _ _ _ _ _ _ _ _) 0 11 rfl rfl rfl rfl hl.1 rfl (Nat.le_of_ble_eq_true rfl) dX5_take_137 ⟨(by show (2 + ku) + 1 ≤ 20; omega), (by show (7 + 1000 * ku) + 1000 ≤ 17000; omega)⟩ (fun rv wq H locs hp hW => ?_)
              obtain ⟨rfl, ml2, al2, cl2, hc2, hkl2, rfl⟩ := hp
              have hW : Wd Dd A s.heap ([(rb, .inr (5, [.ref vl, .ref kl, .ref co, .int ru, .int mo, .int lk, .int wn, .int qu, .int bu])), (vl, .inr (11, [.int mv, .ref av, .int (nI vs.length)])), (av, .inl (Y.2.1 2, cv, .inr (.inr (.inr (.inr (fun k => vs[k]?)))))), (kl, .inr (11, [.int mk, .ref ak, .int (nI ks.length)])), (co, .inl (Y.2.1 4, 6, .inr (.inr (.inr (.inr (fun l => some (ca l))))))), (lf, .inr (11, [.int ml2, .ref al2, .int (nI (xs ++ [y]).length)])), (it, .inr (10, [.int (nI (ku + 1)), .int (nI ku), .int mk, .ref kl]))] ++ ((KT Y ak ck ks ++ KT Y al2 cl2 (xs ++ [y])) ++ va_pl L f1)) H locs := hW.permA (pmq57 _ _ _ _ _ _ _ _ _ _)
              refine W.eq (g2 := F0 m 142 ls [.int 1]) rfl ?_
              refine lv_pop hx hb dX5_take_142 rfl ?_
              refine lv_goto (tgt := 33) hx hb dX5_take_143 (by decide) ?_
              have hl : lv_has ls 6 [(4, .ref it), (0, .ref rb), (1, .int (nI x)), (2, .ref v), (3, .ref lf)] := lv_sub hl [1, 2, 3, 4, 5] rfl
              refine W.widen (show 2 + ku + 1 ≤ 2 + (ku + 1) from by omega) (show 7 + 1000 * ku + 1000 ≤ 7 + 1000 * (ku + 1) from by omega) (ih (ku + 1) (nI ku) ml2 al2 cl2 (xs ++ [y]) f1 _ _ _ (by omega) hkl2 (hup ▸ hT.k hS.1 hy hd rfl) (by omega) hl hW)
            · have eb : toA (f y) = v := by rw [← hfy]; exact Option.some.inj qd
              have eib : ib = x := vs_inj hvo.1 hib (by rw [eb]; exact hx0)
              have eia : ia ≠ x := fun q => ea (by rw [q, hx0] at hia; exact (Option.some.inj hia).symm)
              obtain ⟨pv, hpv⟩ := vs_at (vs := vs) (p := x - 1) (by omega)
              refine lv_aload hx hb dX5_take_114 (lv_at hl 0 rfl) ?_
              refine lv_aload_n hx hb dX5_take_116 rfl (lv_at hl 2 rfl) ?_
              refine g_ X hinX5 hW 0 rfl rfl 0 (by decide) 1 rfl rfl rfl dX5_take_117 ?_
              refine lv_iload_n hx hb dX5_take_120 rfl (lv_at hl 3 rfl) ?_
              refine lv_iconst (v := 1) hx hb dX5_take_121 (by decide) ?_
              refine lv_isub hx hb dX5_take_122 ?_
              rw [show nI x - 1 = nI (x - 1) from pk_sub (b := 1) (by omega)]
              refine rF_ (As := [.int (nI (x - 1))]) (rest := [.ref y]) (wc := [(vl, .inr (11, [.int mv, .ref av, .int (nI vs.length)])), (av, .inl (Y.2.1 2, cv, .inr (.inr (.inr (.inr (fun k => vs[k]?))))))]) (w9 := [(rb, .inr (5, [.ref vl, .ref kl, .ref co, .int ru, .int mo, .int lk, .int wn, .int qu, .int bu])), (kl, .inr (11, [.int mk, .ref ak, .int (nI ks.length)])), (co, .inl (Y.2.1 4, 6, .inr (.inr (.inr (.inr (fun l => some (ca l))))))), (lf, .inr (11, [.int ml, .ref al, .int (nI xs.length)])), (it, .inr (10, [.int (nI (ku + 1)), .int (nI ku), .int mk, .ref kl]))] ++ ((KT Y ak ck ks ++ KT Y al cl_ xs) ++ va_pl L f1)) X 1 (kJx4a65c_get_915e3 l Dd Y vl av cv vs.length (x - 1) mv (fun k => vs[k]?) (by omega) hC.1 (by omega)) gX5_take_Jx4a65c_get_915e3_f30Jx4a65c rfl rfl rfl (by decide +kernel) (by decide +kernel) ⟨(Nat.le_of_ble_eq_true rfl), (Nat.le_of_ble_eq_true rfl)⟩ hW (pmq54 _ _ _ _ _ _ _ _) 0 11 rfl rfl rfl rfl hl.1 rfl (Nat.le_of_ble_eq_true rfl) dX5_take_123 ⟨(by show (2 + ku) + 0 ≤ 20; omega), (by show (7 + 1000 * ku) + 0 ≤ 17000; omega)⟩ (fun rv wq H locs hp hW => ?_)
              obtain ⟨rfl, rfl⟩ := hp
              have hW : Wd Dd A s.heap ([(vl, .inr (11, [.int mv, .ref av, .int (nI vs.length)])), (av, .inl (Y.2.1 2, cv, .inr (.inr (.inr (.inr (fun k => vs[k]?)))))), (rb, .inr (5, [.ref vl, .ref kl, .ref co, .int ru, .int mo, .int lk, .int wn, .int qu, .int bu])), (kl, .inr (11, [.int mk, .ref ak, .int (nI ks.length)])), (co, .inl (Y.2.1 4, 6, .inr (.inr (.inr (.inr (fun l => some (ca l))))))), (lf, .inr (11, [.int ml, .ref al, .int (nI xs.length)])), (it, .inr (10, [.int (nI (ku + 1)), .int (nI ku), .int mk, .ref kl]))] ++ ((KT Y ak ck ks ++ KT Y al cl_ xs) ++ va_pl L f1)) H locs := hW
              have hW : Wd Dd A s.heap ([(rb, .inr (5, [.ref vl, .ref kl, .ref co, .int ru, .int mo, .int lk, .int wn, .int qu, .int bu])), (vl, .inr (11, [.int mv, .ref av, .int (nI vs.length)])), (av, .inl (Y.2.1 2, cv, .inr (.inr (.inr (.inr (fun k => vs[k]?)))))), (kl, .inr (11, [.int mk, .ref ak, .int (nI ks.length)])), (co, .inl (Y.2.1 4, 6, .inr (.inr (.inr (.inr (fun l => some (ca l))))))), (lf, .inr (11, [.int ml, .ref al, .int (nI xs.length)])), (it, .inr (10, [.int (nI (ku + 1)), .int (nI ku), .int mk, .ref kl]))] ++ ((KT Y ak ck ks ++ KT Y al cl_ xs) ++ va_pl L f1)) H locs := hW.permA (pmq55 _ _ _ _ _ _ _ _)
              refine W.eq (g2 := F0 m 128 ls [va_rf vs[(x - 1)]?, .ref y]) rfl ?_
              rw [hpv]
              refine W.eq (g2 := F0 m 128 ls [.ref pv, .ref y]) rfl ?_
              refine vCa_ X hW (hv1.at hpv) (i := 2) rfl dX5_take_128 ?_
              refine pSt_ X hinX6 hW hys dX5_take_131 (fun H locs hW => ?_)
              have hW : Wd Dd A s.heap ([(rb, .inr (5, [.ref vl, .ref kl, .ref co, .int ru, .int mo, .int lk, .int wn, .int qu, .int bu])), (vl, .inr (11, [.int mv, .ref av, .int (nI vs.length)])), (av, .inl (Y.2.1 2, cv, .inr (.inr (.inr (.inr (fun k => vs[k]?)))))), (kl, .inr (11, [.int mk, .ref ak, .int (nI ks.length)])), (co, .inl (Y.2.1 4, 6, .inr (.inr (.inr (.inr (fun l => some (ca l))))))), (lf, .inr (11, [.int ml, .ref al, .int (nI xs.length)])), (it, .inr (10, [.int (nI (ku + 1)), .int (nI ku), .int mk, .ref kl]))] ++ ((KT Y ak ck ks ++ KT Y al cl_ xs) ++ va_pl L (va_up f1 y (sE (frA (f1 y)) pv)))) H locs := hW
              have hys2 : y ∈ L ∧ isS ((va_up f1 y (sE (frA (f1 y)) pv)) y) := ⟨hys.1, by rw [up_at]; exact isS_sE _ _⟩
              refine lv_aload_n hx hb dX5_take_134 rfl (lv_at hl 5 rfl) ?_
              refine lv_aload hx hb dX5_take_135 (lv_at hl 0 rfl) ?_
              have hmx : ∀ a ∈ xs, a ∈ L ∧ isS ((va_up f1 y (sE (frA (f1 y)) pv)) a) := fun a ha => ⟨(hT.s hS (hT.sub ha)).1, by unfold va_up; split; exact isS_sE _ _; exact (hT.s hS (hT.sub ha)).2⟩
              refine rF_ (As := [.ref y]) (rest := []) (wc := ((lf, .inr (11, [.int ml, .ref al, .int (nI xs.length)])) :: KT Y al cl_ xs) ++ ([(rb, .inr (5, [.ref vl, .ref kl, .ref co, .int ru, .int mo, .int lk, .int wn, .int qu, .int bu])), (vl, .inr (11, [.int mv, .ref av, .int (nI vs.length)])), (av, .inl (Y.2.1 2, cv, .inr (.inr (.inr (.inr (fun k => vs[k]?)))))), (kl, .inr (11, [.int mk, .ref ak, .int (nI ks.length)])), (co, .inl (Y.2.1 4, 6, .inr (.inr (.inr (.inr (fun l => some (ca l))))))), (it, .inr (10, [.int (nI (ku + 1)), .int (nI ku), .int mk, .ref kl]))] ++ (KT Y ak ck ks ++ va_pl L (va_up f1 y (sE (frA (f1 y)) pv))))) (w9 := []) X 1 (kAddL l Dd Y lf al cl_ y ml xs ([(rb, .inr (5, [.ref vl, .ref kl, .ref co, .int ru, .int mo, .int lk, .int wn, .int qu, .int bu])), (vl, .inr (11, [.int mv, .ref av, .int (nI vs.length)])), (av, .inl (Y.2.1 2, cv, .inr (.inr (.inr (.inr (fun k => vs[k]?)))))), (kl, .inr (11, [.int mk, .ref ak, .int (nI ks.length)])), (co, .inl (Y.2.1 4, 6, .inr (.inr (.inr (.inr (fun l => some (ca l))))))), (it, .inr (10, [.int (nI (ku + 1)), .int (nI ku), .int mk, .ref kl]))] ++ (KT Y ak ck ks ++ va_pl L (va_up f1 y (sE (frA (f1 y)) pv)))) hkl (fun a ha => inx_s (hmx a ha)) (inx_s hys2) (by omega)) gX5_take_Jx4a65c_add_9ea2d_f116Jx4a65c rfl rfl rfl (by decide +kernel) (by decide +kernel) ⟨(Nat.le_of_ble_eq_true rfl), (Nat.le_of_ble_eq_true rfl)⟩ hW (pmq56 _ _ _ _ _ _ _ _ _ _) 0 11 rfl rfl rfl rfl hl.1 rfl (Nat.le_of_ble_eq_true rfl) dX5_take_137 ⟨(by show (2 + ku) + 1 ≤ 20; omega), (by show (7 + 1000 * ku) + 1000 ≤ 17000; omega)⟩ (fun rv wq H locs hp hW => ?_)
              obtain ⟨rfl, ml2, al2, cl2, hc2, hkl2, rfl⟩ := hp
              have hW : Wd Dd A s.heap ([(rb, .inr (5, [.ref vl, .ref kl, .ref co, .int ru, .int mo, .int lk, .int wn, .int qu, .int bu])), (vl, .inr (11, [.int mv, .ref av, .int (nI vs.length)])), (av, .inl (Y.2.1 2, cv, .inr (.inr (.inr (.inr (fun k => vs[k]?)))))), (kl, .inr (11, [.int mk, .ref ak, .int (nI ks.length)])), (co, .inl (Y.2.1 4, 6, .inr (.inr (.inr (.inr (fun l => some (ca l))))))), (lf, .inr (11, [.int ml2, .ref al2, .int (nI (xs ++ [y]).length)])), (it, .inr (10, [.int (nI (ku + 1)), .int (nI ku), .int mk, .ref kl]))] ++ ((KT Y ak ck ks ++ KT Y al2 cl2 (xs ++ [y])) ++ va_pl L (va_up f1 y (sE (frA (f1 y)) pv)))) H locs := hW.permA (pmq57 _ _ _ _ _ _ _ _ _ _)
              refine W.eq (g2 := F0 m 142 ls [.int 1]) rfl ?_
              refine lv_pop hx hb dX5_take_142 rfl ?_
              refine lv_goto (tgt := 33) hx hb dX5_take_143 (by decide) ?_
              have hl : lv_has ls 6 [(4, .ref it), (0, .ref rb), (1, .int (nI x)), (2, .ref v), (3, .ref lf)] := lv_sub hl [1, 2, 3, 4, 5] rfl
              refine W.widen (show 2 + ku + 1 ≤ 2 + (ku + 1) from by omega) (show 7 + 1000 * ku + 1000 ≤ 7 + 1000 * (ku + 1) from by omega) (ih (ku + 1) (nI ku) ml2 al2 cl2 (xs ++ [y]) (va_up f1 y (sE (frA (f1 y)) pv)) _ _ _ (by omega) hkl2 (hT.k hS.1 hy hd (by unfold tkE; rw [if_neg ea, if_pos eb, hfy, gD_i (show x - 1 < vs.length by omega)]; rw [List.getElem?_eq_getElem (show x - 1 < vs.length by omega)] at hpv; rw [Option.some.inj hpv])) (by omega) hl hW)
          · exact absurd qc qa
        · refine lv_aload hx hb dX5_take_64 (lv_at hl 0 rfl) ?_
          refine gSt_ X hinX6 hW hys dX5_take_66 ?_
          refine lv_aload_n hx hb dX5_take_69 rfl (lv_at hl 4 rfl) ?_
          refine lv_acmp_ne (rx := some (toA (f1 y))) (ry := some v) (tgt := 76) hx hb dX5_take_70 (by decide) (fun qb => ?_) (fun qb => ?_)
          · have ea : frA (f y) = v := by rw [← hfy]; exact Option.some.inj qa
            have eb : ¬ toA (f y) = v := fun q => qb (by rw [hfy, q])
            have eia : ia = x := vs_inj hvo.1 hia (by rw [ea]; exact hx0)
            have eib : ib ≠ x := fun q => eb (by rw [q, hx0] at hib; exact (Option.some.inj hib).symm)
            have hibn := (List.getElem?_eq_some_iff.mp hib).1
            refine lv_aload hx hb dX5_take_76 (lv_at hl 0 rfl) ?_
            refine gSf_ X hinX6 hW hys dX5_take_78 ?_
            refine lv_aload_n hx hb dX5_take_81 rfl (lv_at hl 4 rfl) ?_
            refine lv_acmp_ne (rx := some (frA (f1 y))) (ry := some v) (tgt := 105) hx hb dX5_take_82 (by decide) (fun qc => ?_) (fun qc => ?_)
            · exact absurd qa qc
            · obtain ⟨nx, hnx⟩ := vs_at (vs := vs) (p := x + 1) (by omega)
              refine lv_aload hx hb dX5_take_85 (lv_at hl 0 rfl) ?_
              refine lv_aload_n hx hb dX5_take_87 rfl (lv_at hl 2 rfl) ?_
              refine g_ X hinX5 hW 0 rfl rfl 0 (by decide) 1 rfl rfl rfl dX5_take_88 ?_
              refine lv_iload_n hx hb dX5_take_91 rfl (lv_at hl 3 rfl) ?_
              refine lv_iconst (v := 1) hx hb dX5_take_92 (by decide) ?_
              refine lv_iadd hx hb dX5_take_93 ?_
              rw [nI_1]
              refine rF_ (As := [.int (nI (x + 1))]) (rest := [.ref y]) (wc := [(vl, .inr (11, [.int mv, .ref av, .int (nI vs.length)])), (av, .inl (Y.2.1 2, cv, .inr (.inr (.inr (.inr (fun k => vs[k]?))))))]) (w9 := [(rb, .inr (5, [.ref vl, .ref kl, .ref co, .int ru, .int mo, .int lk, .int wn, .int qu, .int bu])), (kl, .inr (11, [.int mk, .ref ak, .int (nI ks.length)])), (co, .inl (Y.2.1 4, 6, .inr (.inr (.inr (.inr (fun l => some (ca l))))))), (lf, .inr (11, [.int ml, .ref al, .int (nI xs.length)])), (it, .inr (10, [.int (nI (ku + 1)), .int (nI ku), .int mk, .ref kl]))] ++ ((KT Y ak ck ks ++ KT Y al cl_ xs) ++ va_pl L f1)) X 1 (kJx4a65c_get_915e3 l Dd Y vl av cv vs.length (x + 1) mv (fun k => vs[k]?) (by omega) hC.1 (by omega)) gX5_take_Jx4a65c_get_915e3_f30Jx4a65c rfl rfl rfl (by decide +kernel) (by decide +kernel) ⟨(Nat.le_of_ble_eq_true rfl), (Nat.le_of_ble_eq_true rfl)⟩ hW (pmq54 _ _ _ _ _ _ _ _) 0 11 rfl rfl rfl rfl hl.1 rfl (Nat.le_of_ble_eq_true rfl) dX5_take_94 ⟨(by show (2 + ku) + 0 ≤ 20; omega), (by show (7 + 1000 * ku) + 0 ≤ 17000; omega)⟩ (fun rv wq H locs hp hW => ?_)
              obtain ⟨rfl, rfl⟩ := hp
              have hW : Wd Dd A s.heap ([(vl, .inr (11, [.int mv, .ref av, .int (nI vs.length)])), (av, .inl (Y.2.1 2, cv, .inr (.inr (.inr (.inr (fun k => vs[k]?)))))), (rb, .inr (5, [.ref vl, .ref kl, .ref co, .int ru, .int mo, .int lk, .int wn, .int qu, .int bu])), (kl, .inr (11, [.int mk, .ref ak, .int (nI ks.length)])), (co, .inl (Y.2.1 4, 6, .inr (.inr (.inr (.inr (fun l => some (ca l))))))), (lf, .inr (11, [.int ml, .ref al, .int (nI xs.length)])), (it, .inr (10, [.int (nI (ku + 1)), .int (nI ku), .int mk, .ref kl]))] ++ ((KT Y ak ck ks ++ KT Y al cl_ xs) ++ va_pl L f1)) H locs := hW
              have hW : Wd Dd A s.heap ([(rb, .inr (5, [.ref vl, .ref kl, .ref co, .int ru, .int mo, .int lk, .int wn, .int qu, .int bu])), (vl, .inr (11, [.int mv, .ref av, .int (nI vs.length)])), (av, .inl (Y.2.1 2, cv, .inr (.inr (.inr (.inr (fun k => vs[k]?)))))), (kl, .inr (11, [.int mk, .ref ak, .int (nI ks.length)])), (co, .inl (Y.2.1 4, 6, .inr (.inr (.inr (.inr (fun l => some (ca l))))))), (lf, .inr (11, [.int ml, .ref al, .int (nI xs.length)])), (it, .inr (10, [.int (nI (ku + 1)), .int (nI ku), .int mk, .ref kl]))] ++ ((KT Y ak ck ks ++ KT Y al cl_ xs) ++ va_pl L f1)) H locs := hW.permA (pmq55 _ _ _ _ _ _ _ _)
              refine W.eq (g2 := F0 m 99 ls [va_rf vs[(x + 1)]?, .ref y]) rfl ?_
              rw [hnx]
              refine W.eq (g2 := F0 m 99 ls [.ref nx, .ref y]) rfl ?_
              refine vCa_ X hW (hv1.at hnx) (i := 2) rfl dX5_take_99 ?_
              refine pSf_ X hinX6 hW hys dX5_take_102 (fun H locs hW => ?_)
              have hW : Wd Dd A s.heap ([(rb, .inr (5, [.ref vl, .ref kl, .ref co, .int ru, .int mo, .int lk, .int wn, .int qu, .int bu])), (vl, .inr (11, [.int mv, .ref av, .int (nI vs.length)])), (av, .inl (Y.2.1 2, cv, .inr (.inr (.inr (.inr (fun k => vs[k]?)))))), (kl, .inr (11, [.int mk, .ref ak, .int (nI ks.length)])), (co, .inl (Y.2.1 4, 6, .inr (.inr (.inr (.inr (fun l => some (ca l))))))), (lf, .inr (11, [.int ml, .ref al, .int (nI xs.length)])), (it, .inr (10, [.int (nI (ku + 1)), .int (nI ku), .int mk, .ref kl]))] ++ ((KT Y ak ck ks ++ KT Y al cl_ xs) ++ va_pl L (va_up f1 y (sE nx (toA (f1 y)))))) H locs := hW
              have hys2 : y ∈ L ∧ isS ((va_up f1 y (sE nx (toA (f1 y)))) y) := ⟨hys.1, by rw [up_at]; exact isS_sE _ _⟩
              refine lv_aload hx hb dX5_take_105 (lv_at hl 0 rfl) ?_
              refine gSt_ X hinX6 hW hys2 dX5_take_107 ?_
              refine lv_aload_n hx hb dX5_take_110 rfl (lv_at hl 4 rfl) ?_
              refine lv_acmp_ne (rx := some (toA ((va_up f1 y (sE nx (toA (f1 y)))) y))) (ry := some v) (tgt := 134) hx hb dX5_take_111 (by decide) (fun qd => ?_) (fun qd => ?_)
              · have hd : ¬ tkD f v y = true := fun q => eb (of_decide_eq_true q).2
                refine lv_aload_n hx hb dX5_take_134 rfl (lv_at hl 5 rfl) ?_
                refine lv_aload hx hb dX5_take_135 (lv_at hl 0 rfl) ?_
                have hmx : ∀ a ∈ xs, a ∈ L ∧ isS ((va_up f1 y (sE nx (toA (f1 y)))) a) := fun a ha => ⟨(hT.s hS (hT.sub ha)).1, by unfold va_up; split; exact isS_sE _ _; exact (hT.s hS (hT.sub ha)).2⟩
                refine rF_ (As := [.ref y]) (rest := []) (wc := ((lf, .inr (11, [.int ml, .ref al, .int (nI xs.length)])) :: KT Y al cl_ xs) ++ ([(rb, .inr (5, [.ref vl, .ref kl, .ref co, .int ru, .int mo, .int lk, .int wn, .int qu, .int bu])), (vl, .inr (11, [.int mv, .ref av, .int (nI vs.length)])), (av, .inl (Y.2.1 2, cv, .inr (.inr (.inr (.inr (fun k => vs[k]?)))))), (kl, .inr (11, [.int mk, .ref ak, .int (nI ks.length)])), (co, .inl (Y.2.1 4, 6, .inr (.inr (.inr (.inr (fun l => some (ca l))))))), (it, .inr (10, [.int (nI (ku + 1)), .int (nI ku), .int mk, .ref kl]))] ++ (KT Y ak ck ks ++ va_pl L (va_up f1 y (sE nx (toA (f1 y))))))) (w9 := []) X 1 (kAddL l Dd Y lf al cl_ y ml xs ([(rb, .inr (5, [.ref vl, .ref kl, .ref co, .int ru, .int mo, .int lk, .int wn, .int qu, .int bu])), (vl, .inr (11, [.int mv, .ref av, .int (nI vs.length)])), (av, .inl (Y.2.1 2, cv, .inr (.inr (.inr (.inr (fun k => vs[k]?)))))), (kl, .inr (11, [.int mk, .ref ak, .int (nI ks.length)])), (co, .inl (Y.2.1 4, 6, .inr (.inr (.inr (.inr (fun l => some (ca l))))))), (it, .inr (10, [.int (nI (ku + 1)), .int (nI ku), .int mk, .ref kl]))] ++ (KT Y ak ck ks ++ va_pl L (va_up f1 y (sE nx (toA (f1 y)))))) hkl (fun a ha => inx_s (hmx a ha)) (inx_s hys2) (by omega)) gX5_take_Jx4a65c_add_9ea2d_f116Jx4a65c rfl rfl rfl (by decide +kernel) (by decide +kernel) ⟨(Nat.le_of_ble_eq_true rfl), (Nat.le_of_ble_eq_true rfl)⟩ hW (pmq56 _ _ _ _ _ _ _ _ _ _) 0 11 rfl rfl rfl rfl hl.1 rfl (Nat.le_of_ble_eq_true rfl) dX5_take_137 ⟨(by show (2 + ku) + 1 ≤ 20; omega), (by show (7 + 1000 * ku) + 1000 ≤ 17000; omega)⟩ (fun rv wq H locs hp hW => ?_)
                obtain ⟨rfl, ml2, al2, cl2, hc2, hkl2, rfl⟩ := hp
                have hW : Wd Dd A s.heap ([(rb, .inr (5, [.ref vl, .ref kl, .ref co, .int ru, .int mo, .int lk, .int wn, .int qu, .int bu])), (vl, .inr (11, [.int mv, .ref av, .int (nI vs.length)])), (av, .inl (Y.2.1 2, cv, .inr (.inr (.inr (.inr (fun k => vs[k]?)))))), (kl, .inr (11, [.int mk, .ref ak, .int (nI ks.length)])), (co, .inl (Y.2.1 4, 6, .inr (.inr (.inr (.inr (fun l => some (ca l))))))), (lf, .inr (11, [.int ml2, .ref al2, .int (nI (xs ++ [y]).length)])), (it, .inr (10, [.int (nI (ku + 1)), .int (nI ku), .int mk, .ref kl]))] ++ ((KT Y ak ck ks ++ KT Y al2 cl2 (xs ++ [y])) ++ va_pl L (va_up f1 y (sE nx (toA (f1 y)))))) H locs := hW.permA (pmq57 _ _ _ _ _ _ _ _ _ _)
                refine W.eq (g2 := F0 m 142 ls [.int 1]) rfl ?_
                refine lv_pop hx hb dX5_take_142 rfl ?_
                refine lv_goto (tgt := 33) hx hb dX5_take_143 (by decide) ?_
                have hl : lv_has ls 6 [(4, .ref it), (0, .ref rb), (1, .int (nI x)), (2, .ref v), (3, .ref lf)] := lv_sub hl [1, 2, 3, 4, 5] rfl
                refine W.widen (show 2 + ku + 1 ≤ 2 + (ku + 1) from by omega) (show 7 + 1000 * ku + 1000 ≤ 7 + 1000 * (ku + 1) from by omega) (ih (ku + 1) (nI ku) ml2 al2 cl2 (xs ++ [y]) (va_up f1 y (sE nx (toA (f1 y)))) _ _ _ (by omega) hkl2 (hT.k hS.1 hy hd (by unfold tkE; rw [if_pos ea, if_neg eb, hfy, gD_i (show x + 1 < vs.length by omega)]; rw [List.getElem?_eq_getElem (show x + 1 < vs.length by omega)] at hnx; rw [Option.some.inj hnx])) (by omega) hl hW)
              · exact absurd (show toA (f y) = v from by rw [← hfy]; have := Option.some.inj qd; rw [up_at] at this; exact this) eb
          · have hd : tkD f v y = true := decide_eq_true ⟨by rw [← hfy]; exact Option.some.inj qa, by rw [← hfy]; exact Option.some.inj qb⟩
            refine lv_goto (tgt := 33) hx hb dX5_take_73 (by decide) ?_
            have hl : lv_has ls 6 [(4, .ref it), (0, .ref rb), (1, .int (nI x)), (2, .ref v), (3, .ref lf)] := lv_sub hl [1, 2, 3, 4, 5] rfl
            refine W.widen (show 2 + ku ≤ 2 + (ku + 1) from by omega) (show 7 + 1000 * ku ≤ 7 + 1000 * (ku + 1) from by omega) (ih (ku + 1) (nI ku) ml al cl_ xs f1 _ _ _ (by omega) hkl (hT.d hS.1 hy hd) (by omega) hl hW)
  exact lpa (ks.length + 1) 0 (-1) 0 (Y.2.2.2.1 100) 0 [] f _ _ _ (Nat.zero_le _) (okL_new Y) TKI.z (by omega) hl hW
