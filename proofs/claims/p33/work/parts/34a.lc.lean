/-! the law's row and the class side by side: one contract for each draw -/
theorem MR.imp {l : Launch} {y : MethodName} {words : List Cond} {rm : Room} {Dd : va_G} {Y : yT} {av : List Value} {ws : va_W} {post post' : Option Value → va_W → Prop} {mc ms : Nat} (h : MR l y words rm Dd Y av ws post mc ms) (k : ∀ rv w, post rv w → post' rv w) : MR l y words rm Dd Y av ws post' mc ms := by
  intro sz p e a b c s m args below h1 h2 hP hK
  obtain ⟨n, o, q1, q2, q3, ⟨⟨rv, w, hp, e1, e2⟩, e3⟩, hL⟩ := h sz p e a b c s m args below h1 h2 hP hK
  exact ⟨n, o, q1, q2, q3, ⟨⟨rv, w, k rv w hp, e1, e2⟩, e3⟩, hL⟩
theorem x_inj {α β : Type} {o : Option (oX (α × β))} {r r' : α} {V V' : β} (h : o = some (.inr (r, V))) (h' : o = some (.inr (r', V'))) : V = V' := by
  have e := Sum.inr.inj (Option.some.inj (h.symm.trans h'))
  exact (Prod.mk.inj e).2
theorem SO.u {L ks vs : List Nat} {f : Nat → va_E} {x v : Nat} {e : va_E} (hS : SO L ks f) (hvo : VO L vs f) (hx0 : vs[x]? = some v) : SO L ks (va_up f v e) := ⟨hS.1, fun z hz => ⟨(hS.2 z hz).1, by rw [show va_up f v e z = f z from if_neg (fun q : z = v => V_S (hvo.at hx0).2 (q ▸ (hS.2 z hz).2))]; exact (hS.2 z hz).2⟩⟩
theorem kSetL (l : Launch) (Dd : va_G) (Y : yT) (rb vl kl co av cv ak ck : Nat) (ca : Nat → Nat) (vs ks L : List Nat) (f : Nat → va_E) (ru mo lk wn qu bu mv mk : Int32) (V : gX) (x v : Nat) (y : Int32) (hI : LI Y V av cv ak ck ca vs ks L f ru mo lk wn qu bu) (hx0 : vs[x]? = some v) (hy : -999 ≤ y ∧ y ≤ 999) : ∃ V' : gX, dnX4_set V (nI x) y = some (.inr (nuA (f v), V')) ∧ MR l yX5_set wsX5_set rmX5_set Dd Y [.ref rb, .int (nI x), .int y] ([(rb, .inr (5, [.ref vl, .ref kl, .ref co, .int ru, .int mo, .int lk, .int wn, .int qu, .int bu])), (vl, .inr (11, [.int mv, .ref av, .int (nI vs.length)])), (av, .inl (Y.2.1 2, cv, .inr (.inr (.inr (.inr (fun k => vs[k]?)))))), (kl, .inr (11, [.int mk, .ref ak, .int (nI ks.length)])), (co, .inl (Y.2.1 4, 6, .inr (.inr (.inr (.inr (fun l => some (ca l)))))))] ++ (KT Y ak ck ks ++ va_pl L f)) (fun rv w => rv = some (.int (nuA (f v))) ∧ ∃ (f' : Nat → va_E) (wn' bu' : Int32), LI Y V' av cv ak ck ca vs ks L f' ru mo lk wn' qu bu' ∧ w = [(rb, .inr (5, [.ref vl, .ref kl, .ref co, .int ru, .int mo, .int lk, .int wn', .int qu, .int bu'])), (vl, .inr (11, [.int mv, .ref av, .int (nI vs.length)])), (av, .inl (Y.2.1 2, cv, .inr (.inr (.inr (.inr (fun k => vs[k]?)))))), (kl, .inr (11, [.int mk, .ref ak, .int (nI ks.length)])), (co, .inl (Y.2.1 4, 6, .inr (.inr (.inr (.inr (fun l => some (ca l)))))))] ++ (KT Y ak ck ks ++ va_pl L f')) 2 8 := by
  obtain ⟨g, Pk, h, hK, hvo, hS, hO, hoV, hoK⟩ := hI
  have n40 := hK.1.1.2.1
  have n1 := hK.1.1.1
  have eru := h.2.2.1.1
  have emo := h.2.2.1.2.1
  have hr := hK.1.2.2.1
  have hx := (List.getElem?_eq_some_iff.mp hx0).1
  obtain ⟨V', g', e4, -, -⟩ := kk_set hK hx hy
  rw [h.1.1 x v hx0] at e4
  refine ⟨V', e4, ?_⟩
  have hSu := hS.u (e := vE y 1) hvo hx0
  have hvu : VO L vs (va_up f v (vE y 1)) := hvo.u (isV_vE (Or.inr rfl))
  have hOu : CO Y L ca (va_up f v (vE y 1)) := hO.u (hvo.ne hO (List.mem_of_getElem? hx0))
  rcases hr with h0 | h1 | h2
  · obtain ⟨V2, g2, e2, k2, l2⟩ := h.set0 hK hvo hS hO hx0 hy (by rw [h0]; decide) (Or.inl (by rw [h0]; decide))
    obtain rfl := x_inj e4 e2
    exact (kSet0 l Dd Y rb vl kl co av cv ak ck ca vs ks L f ru mo lk wn qu bu mv mk x v y g h.1.1 h.1.2 hoV.2 hvo hO n40 hx0 (by rw [eru, h0]; decide) (by rw [eru, h0]; decide)).imp (fun rv w hp => ⟨hp.1, _, wn, bu, ⟨g2, Pk, l2, k2, hvu, hSu, hOu, hoV, hoK⟩, hp.2⟩)
  · refine (kX5_set l Dd Y rb vl kl co av cv ak ck ca vs ks L f ru mo lk wn qu bu mv mk x v y g h.1.1 h.1.2 hoV.2 hvo hO n40 hx0 (by rw [eru, h1])).imp (fun rv w hp => ?_)
    obtain ⟨p1, f', hF, p2⟩ := hp
    obtain ⟨V2, g2, e2, k2, l2⟩ := h.set1 hK hvo hS hO hx0 hy h1 hF
    obtain rfl := x_inj e4 e2
    have hv1 : VO L vs (va_up f v (vE y (wtA (f v)))) := hvo.u (isV_vE (hvo.at hx0).2.2)
    have hO1 : CO Y L ca (va_up f v (vE y (wtA (f v)))) := hO.u (hvo.ne hO (List.mem_of_getElem? hx0))
    have hS1 := hS.u (e := vE y (wtA (f v))) hvo hx0
    have hS2 : SO L ks f' := ⟨hS.1, fun z hz => ⟨(hS.2 z hz).1, by rw [hF.1 z (fun l hl e => S_C (hS1.2 z hz).2 (e ▸ (hO1.1 l hl).2))]; exact (hS1.2 z hz).2⟩⟩
    exact ⟨p1, f', _, bu, ⟨g2, Pk, l2, k2, hF.vo hv1 hO1, hS2, hF.2.1, hoV, hoK⟩, p2⟩
  · by_cases hb : nI (wc (upd (upd g (12 + x) y) (52 + x) 1) vs.length) ≤ g 2
    · obtain ⟨V2, g2, e2, k2, l2⟩ := h.set0 hK hvo hS hO hx0 hy (by rw [h2]; decide) (Or.inr hb)
      obtain rfl := x_inj e4 e2
      exact (kSet3 l Dd Y rb vl kl co av cv ak ck ca vs ks L f ru mo lk wn qu bu mv mk x v y g h.1.1 h.1.2 hoV.2 hvo hO n40 hx0 (by rw [eru, h2]; decide) (by rw [eru, h2]) (by rw [emo]; exact hb)).imp (fun rv w hp => ⟨hp.1, _, wn, bu, ⟨g2, Pk, l2, k2, hvu, hSu, hOu, hoV, hoK⟩, hp.2⟩)
    · refine (kSet2 l Dd Y rb vl kl co av cv ak ck ca vs ks L f ru mo lk wn qu bu mv mk x v y g h.1.1 h.1.2 hoV.2 hvo hO n40 hx0 (by rw [eru, h2]; decide) (by rw [eru, h2]) (by rw [emo]; exact hb)).imp (fun rv w hp => ?_)
      obtain ⟨p1, f', hB, p2⟩ := hp
      obtain ⟨V2, g2, e2, k2, l2⟩ := h.set2 hK hvo hS hO hx0 hy h2 hb hB
      obtain rfl := x_inj e4 e2
      exact ⟨p1, f', _, _, ⟨g2, Pk, l2, k2, hB.vo hvu, hB.so hvu hSu hOu, hB.2.2.1, hoV, hoK⟩, p2⟩
theorem kAskL (l : Launch) (Dd : va_G) (Y : yT) (rb vl kl co av cv ak ck : Nat) (ca : Nat → Nat) (vs ks L : List Nat) (f : Nat → va_E) (ru mo lk wn qu bu mv mk : Int32) (V : gX) (a b : Nat) (hI : LI Y V av cv ak ck ca vs ks L f ru mo lk wn qu bu) (hab : a ≤ b) (hb : b < vs.length) : ∃ (V' : gX) (r : Nat), dnX4_ask V (nI a) (nI b) = some (.inr (nI r, V')) ∧ MR l yX5_ask wsX5_ask rmX5_ask Dd Y [.ref rb, .int (nI a), .int (nI b)] ([(rb, .inr (5, [.ref vl, .ref kl, .ref co, .int ru, .int mo, .int lk, .int wn, .int qu, .int bu])), (vl, .inr (11, [.int mv, .ref av, .int (nI vs.length)])), (av, .inl (Y.2.1 2, cv, .inr (.inr (.inr (.inr (fun k => vs[k]?)))))), (kl, .inr (11, [.int mk, .ref ak, .int (nI ks.length)])), (co, .inl (Y.2.1 4, 6, .inr (.inr (.inr (.inr (fun l => some (ca l)))))))] ++ (KT Y ak ck ks ++ va_pl L f)) (fun rv w => rv = some (.int (nI r)) ∧ ∃ (f' : Nat → va_E) (lk' wn' qu' bu' : Int32), LI Y V' av cv ak ck ca vs ks L f' ru mo lk' wn' qu' bu' ∧ w = [(rb, .inr (5, [.ref vl, .ref kl, .ref co, .int ru, .int mo, .int lk', .int wn', .int qu', .int bu'])), (vl, .inr (11, [.int mv, .ref av, .int (nI vs.length)])), (av, .inl (Y.2.1 2, cv, .inr (.inr (.inr (.inr (fun k => vs[k]?)))))), (kl, .inr (11, [.int mk, .ref ak, .int (nI ks.length)])), (co, .inl (Y.2.1 4, 6, .inr (.inr (.inr (.inr (fun l => some (ca l)))))))] ++ (KT Y ak ck ks ++ va_pl L f')) 2 8 := by
  obtain ⟨g, Pk, h, hK, hvo, hS, hO, hoV, hoK⟩ := hI
  have n40 := hK.1.1.2.1
  have n1 := hK.1.1.1
  have eru := h.2.2.1.1
  have emo := h.2.2.1.2.1
  have hr := hK.1.2.2.1
  obtain ⟨V', g', e4, -, -⟩ := kk_ask hK hab hb
  have hHC := h.hc hK.1
  refine ⟨V', _, e4, ?_⟩
  by_cases h0 : g 1 = 0
  · by_cases hz : wc g vs.length = 0
    · obtain ⟨V2, g2, e2, k2, l2, -⟩ := h.ask hK hab hb (Or.inr hz)
      obtain rfl := x_inj e4 e2
      exact (kAskZ l Dd Y rb vl kl co av cv ak ck ca vs ks L f ru mo lk wn qu bu mv mk a b g h.1.1 h.1.2 hoV.2 hvo hO hHC n40 hab hb (by rw [eru, h0]) hz).imp (fun rv w hp => ⟨hp.1, _, _, _, _, _, ⟨g2, Pk, l2, k2, hvo, hS, hO, hoV, hoK⟩, hp.2⟩)
    · refine (kAskB l Dd Y rb vl kl co av cv ak ck ca vs ks L f ru mo lk wn qu bu mv mk a b g h.1.1 h.1.2 hoV.2 hvo hO n40 hab hb (by rw [eru, h0]) hz).imp (fun rv w hp => ?_)
      obtain ⟨f', hB, gq, rfl, p1, p2⟩ := hp
      obtain ⟨V2, g2, e2, k2, l2, -⟩ := h.askB hK hab hb h0 hz hvo hS hO hB
      obtain rfl := x_inj e4 e2
      rw [lm_clrW (n := vs.length) (by omega) n40] at p1
      exact ⟨p1, f', _, _, _, _, ⟨g2, Pk, l2, k2, hB.vo hvo, hB.so hvo hS hO, hB.2.2.1, hoV, hoK⟩, p2⟩
  · obtain ⟨V2, g2, e2, k2, l2, -⟩ := h.ask hK hab hb (Or.inl h0)
    obtain rfl := x_inj e4 e2
    exact (kX5_ask l Dd Y rb vl kl co av cv ak ck ca vs ks L f ru mo lk wn qu bu mv mk a b g h.1.1 h.1.2 hoV.2 hvo hO hHC n40 hab hb (by rw [eru]; exact h0)).imp (fun rv w hp => ⟨hp.1, _, _, _, _, _, ⟨g2, Pk, l2, k2, hvo, hS, hO, hoV, hoK⟩, hp.2⟩)
theorem kPutL (l : Launch) (Dd : va_G) (Y : yT) (rb vl kl co av cv ak ck : Nat) (ca : Nat → Nat) (vs ks L : List Nat) (f : Nat → va_E) (ru mo lk wn qu bu mv mk : Int32) (V : gX) (x : Nat) (y : Int32) (hI : LI Y V av cv ak ck ca vs ks L f ru mo lk wn qu bu) (h40 : vs.length < 40) (hx : x < vs.length) (hy : -999 ≤ y ∧ y ≤ 999) : ∃ V' : gX, dnX4_put V (nI x) y = some (.inr (nI (vs.length + 1), V')) ∧ MR l yX5_put wsX5_put rmX5_put Dd Y [.ref rb, .int (nI x), .int y] ([(rb, .inr (5, [.ref vl, .ref kl, .ref co, .int ru, .int mo, .int lk, .int wn, .int qu, .int bu])), (vl, .inr (11, [.int mv, .ref av, .int (nI vs.length)])), (av, .inl (Y.2.1 2, cv, .inr (.inr (.inr (.inr (fun k => vs[k]?)))))), (kl, .inr (11, [.int mk, .ref ak, .int (nI ks.length)])), (co, .inl (Y.2.1 4, 6, .inr (.inr (.inr (.inr (fun l => some (ca l)))))))] ++ (KT Y ak ck ks ++ va_pl L f)) (fun rv w => rv = some (.int (nI (vs.length + 1))) ∧ ∃ (mv' : Int32) (av' cv' : Nat) (vs' L' : List Nat) (f' : Nat → va_E) (wn' bu' : Int32), LI Y V' av' cv' ak ck ca vs' ks L' f' ru mo lk wn' qu bu' ∧ w = [(rb, .inr (5, [.ref vl, .ref kl, .ref co, .int ru, .int mo, .int lk, .int wn', .int qu, .int bu'])), (vl, .inr (11, [.int mv', .ref av', .int (nI vs'.length)])), (av', .inl (Y.2.1 2, cv', .inr (.inr (.inr (.inr (fun k => vs'[k]?)))))), (kl, .inr (11, [.int mk, .ref ak, .int (nI ks.length)])), (co, .inl (Y.2.1 4, 6, .inr (.inr (.inr (.inr (fun l => some (ca l)))))))] ++ (KT Y ak ck ks ++ va_pl L' f')) 3 1006 := by
  obtain ⟨g, Pk, h, hK, hvo, hS, hO, hoV, hoK⟩ := hI
  have n40 := hK.1.1.2.1
  have n1 := hK.1.1.1
  have eru := h.2.2.1.1
  have emo := h.2.2.1.2.1
  have hr := hK.1.2.2.1
  obtain ⟨V', g', e4, -, -⟩ := kk_put hK h40 hx hy
  refine ⟨V', e4, ?_⟩
  refine (kX5_put l Dd Y rb vl kl co av cv ak ck ca vs ks L f ru mo lk wn qu bu mv mk x y g h.1.1 hoV hvo hO h40 hx).imp (fun rv w hp => ?_)
  obtain ⟨p1, q, mv', av', cv', f', hq, hc0, hoV', hB, p2⟩ := hp
  obtain ⟨V2, g2, Pk', e2, k2, l2⟩ := h.put hK hvo hS hO h40 hx hy hq hB
  obtain rfl := x_inj e4 e2
  have hv1 : VO (L ++ [q]) (insL vs x q) (va_up f q (vE y 0)) := hvo.ins hq (isV_vE (Or.inl rfl))
  have hO1 : CO Y (L ++ [q]) ca (va_up f q (vE y 0)) := hO.ins hq
  have hS1 : SO (L ++ [q]) ks (va_up f q (vE y 0)) := ⟨hS.1, fun z hz => ⟨List.mem_append_left _ (hS.2 z hz).1, by rw [up_ne (fun e : z = q => hq (e ▸ (hS.2 z hz).1))]; exact (hS.2 z hz).2⟩⟩
  exact ⟨p1, mv', av', cv', _, _, f', _, _, ⟨g2, Pk', l2, k2, hB.vo hv1, hB.so hv1 hS1 hO1, hB.2.2.1, hoV', hoK⟩, p2⟩
theorem LG.ko {vs ks : List Nat} {ca : Nat → Nat} {f : Nat → va_E} {ru mo lk wn qu bu : Int32} {g : Nat → Int32} {Pk : kL} (h : LG vs ks ca f ru mo lk wn qu bu g Pk) : KOk vs ks f := fun k hk => by
  obtain ⟨i, hi⟩ := List.getElem?_of_mem hk
  obtain ⟨a, b, e1, e2, e3⟩ := h.2.2.2.2.2.2 i k hi
  exact ⟨a, b, (h.2.2.2.2.2.1 i a b e1).1, e2, e3⟩
theorem kTakeL (l : Launch) (Dd : va_G) (Y : yT) (rb vl kl co av cv ak ck : Nat) (ca : Nat → Nat) (vs ks L : List Nat) (f : Nat → va_E) (ru mo lk wn qu bu mv mk : Int32) (V : gX) (x v : Nat) (hI : LI Y V av cv ak ck ca vs ks L f ru mo lk wn qu bu) (h2 : 2 ≤ vs.length) (hx0 : vs[x]? = some v) : ∃ V' : gX, dnX4_take V (nI x) = some (.inr (nuA (f v), V')) ∧ MR l yX5_take wsX5_take rmX5_take Dd Y [.ref rb, .int (nI x)] ([(rb, .inr (5, [.ref vl, .ref kl, .ref co, .int ru, .int mo, .int lk, .int wn, .int qu, .int bu])), (vl, .inr (11, [.int mv, .ref av, .int (nI vs.length)])), (av, .inl (Y.2.1 2, cv, .inr (.inr (.inr (.inr (fun k => vs[k]?)))))), (kl, .inr (11, [.int mk, .ref ak, .int (nI ks.length)])), (co, .inl (Y.2.1 4, 6, .inr (.inr (.inr (.inr (fun l => some (ca l)))))))] ++ (KT Y ak ck ks ++ va_pl L f)) (fun rv w => rv = some (.int (nuA (f v))) ∧ ∃ (mv' mk' : Int32) (ak' ck' : Nat) (vs' ks' : List Nat) (f' : Nat → va_E) (wn' bu' : Int32), LI Y V' av cv ak' ck' ca vs' ks' L f' ru mo lk wn' qu bu' ∧ w = [(rb, .inr (5, [.ref vl, .ref kl, .ref co, .int ru, .int mo, .int lk, .int wn', .int qu, .int bu'])), (vl, .inr (11, [.int mv', .ref av, .int (nI vs'.length)])), (av, .inl (Y.2.1 2, cv, .inr (.inr (.inr (.inr (fun k => vs'[k]?)))))), (kl, .inr (11, [.int mk', .ref ak', .int (nI ks'.length)])), (co, .inl (Y.2.1 4, 6, .inr (.inr (.inr (.inr (fun l => some (ca l)))))))] ++ (KT Y ak' ck' ks' ++ va_pl L f')) 20 17000 := by
  obtain ⟨g, Pk, h, hK, hvo, hS, hO, hoV, hoK⟩ := hI
  have n40 := hK.1.1.2.1
  have n1 := hK.1.1.1
  have eru := h.2.2.1.1
  have emo := h.2.2.1.2.1
  have hr := hK.1.2.2.1
  have hx := (List.getElem?_eq_some_iff.mp hx0).1
  obtain ⟨V', g', kc', e4, -, -⟩ := kk_take hK h2 hx
  rw [h.1.1 x v hx0] at e4
  refine ⟨V', e4, ?_⟩
  refine (kX5_take l Dd Y rb vl kl co av cv ak ck ca vs ks L f ru mo lk wn qu bu mv mk x v g h.1.1 hoV hoK hvo hO hS h.ko n40 hK.1.2.1.1 hx0).imp (fun rv w hp => ?_)
  obtain ⟨p1, xs, f1, f', mv', mk', ak', ck', hT, hoK', hB, p2⟩ := hp
  obtain ⟨V2, g2, Pk', e2, k2, l2⟩ := h.take hK hvo hS hO h2 hx0 hT hB
  obtain rfl := x_inj e4 e2
  have hv1 : VO L (vs.eraseIdx x) f1 := (hT.vo hS hvo).er
  have hO1 : CO Y L ca f1 := hT.co hS hO
  have hS1 : SO L xs f1 := ⟨by rw [hT.2.2]; exact List.Nodup.sublist List.filter_sublist (List.Nodup.sublist (List.take_sublist _ _) hS.1), fun z hz => hT.s hS (hT.sub hz)⟩
  have hoV' : okL Y av cv (vs.eraseIdx x) := ⟨fun e => absurd (hoV.1 e).2 (fun z => by rw [z] at hx; simp at hx), by rw [List.length_eraseIdx_of_lt hx]; have := hoV.2.1; omega, hoV.2.2⟩
  exact ⟨p1, mv', mk', ak', ck', _, xs, f', _, _, ⟨g2, Pk', l2, k2, hB.vo hv1, hB.so hv1 hS1 hO1, hB.2.2.1, hoV', hoK'⟩, p2⟩
theorem kSweepL (l : Launch) (Dd : va_G) (Y : yT) (rb vl kl co av cv ak ck : Nat) (ca : Nat → Nat) (vs ks L : List Nat) (f : Nat → va_E) (ru mo lk wn qu bu mv mk : Int32) (V : gX) (lim : Int32) (hI : LI Y V av cv ak ck ca vs ks L f ru mo lk wn qu bu) (hlim : -999 ≤ lim ∧ lim ≤ 1000) : ∃ (V' : gX) (r : Int32), dnX4_sweep V lim = some (.inr (r, V')) ∧ MR l yX5_sweep wsX5_sweep rmX5_sweep Dd Y [.ref rb, .int lim] ([(rb, .inr (5, [.ref vl, .ref kl, .ref co, .int ru, .int mo, .int lk, .int wn, .int qu, .int bu])), (vl, .inr (11, [.int mv, .ref av, .int (nI vs.length)])), (av, .inl (Y.2.1 2, cv, .inr (.inr (.inr (.inr (fun k => vs[k]?)))))), (kl, .inr (11, [.int mk, .ref ak, .int (nI ks.length)])), (co, .inl (Y.2.1 4, 6, .inr (.inr (.inr (.inr (fun l => some (ca l)))))))] ++ (KT Y ak ck ks ++ va_pl L f)) (fun rv w => rv = some (.int r) ∧ ∃ (mk' : Int32) (ak' ck' : Nat) (ks' : List Nat) (f' : Nat → va_E) (lk' wn' qu' bu' : Int32), LI Y V' av cv ak' ck' ca vs ks' L f' ru mo lk' wn' qu' bu' ∧ w = [(rb, .inr (5, [.ref vl, .ref kl, .ref co, .int ru, .int mo, .int lk', .int wn', .int qu', .int bu'])), (vl, .inr (11, [.int mv, .ref av, .int (nI vs.length)])), (av, .inl (Y.2.1 2, cv, .inr (.inr (.inr (.inr (fun k => vs[k]?)))))), (kl, .inr (11, [.int mk', .ref ak', .int (nI ks'.length)])), (co, .inl (Y.2.1 4, 6, .inr (.inr (.inr (.inr (fun l => some (ca l)))))))] ++ (KT Y ak' ck' ks' ++ va_pl L f')) 36 17000 := by
  obtain ⟨g, Pk, h, hK, hvo, hS, hO, hoV, hoK⟩ := hI
  have n40 := hK.1.1.2.1
  have n1 := hK.1.1.1
  have eru := h.2.2.1.1
  have emo := h.2.2.1.2.1
  have hr := hK.1.2.2.1
  obtain ⟨st, V', e4, hJo, hJn, hJb, hJ0, hst0, hend⟩ := h.sweep hK hvo hS hO hlim
  refine ⟨V', _, e4, ?_⟩
  refine (kX5_sweep l Dd Y rb vl kl co av cv ak ck ca vs ks L f ru mo lk wn qu bu mv mk lim g _ st hoV.2 hoK hvo hS n40 hK.1.2.1.1 hJo hJn hJb hJ0 hst0).imp (fun rv w hp => ?_)
  obtain ⟨p1, g1, f1, lk1, wn1, qu1, bu1, mk', ak', ck', hJ, hoK', p2⟩ := hp
  obtain ⟨⟨g2, k2, l2⟩, v2, s2, o2⟩ := hend g1 f1 lk1 wn1 qu1 bu1 hJ
  exact ⟨p1, mk', ak', ck', _, f1, lk1, wn1, qu1, bu1, ⟨g2, _, l2, k2, v2, s2, o2, hoV, hoK'⟩, p2⟩
theorem kRuleL (l : Launch) (Dd : va_G) (Y : yT) (rb vl kl co av cv ak ck : Nat) (ca : Nat → Nat) (vs ks L : List Nat) (f : Nat → va_E) (ru mo lk wn qu bu mv mk : Int32) (V : gX) (m : Nat) (hI : LI Y V av cv ak ck ca vs ks L f ru mo lk wn qu bu) (hm : m ≤ 2) : ∃ V' : gX, dnX4_rule V 1 (nI m) = some (.inr (ru, V')) ∧ MR l yX5_build wsX5_build rmX5_build Dd Y [.ref rb] ([(rb, .inr (5, [.ref vl, .ref kl, .ref co, .int (nI m), .int mo, .int lk, .int wn, .int qu, .int bu])), (vl, .inr (11, [.int mv, .ref av, .int (nI vs.length)])), (av, .inl (Y.2.1 2, cv, .inr (.inr (.inr (.inr (fun k => vs[k]?)))))), (kl, .inr (11, [.int mk, .ref ak, .int (nI ks.length)])), (co, .inl (Y.2.1 4, 6, .inr (.inr (.inr (.inr (fun l => some (ca l)))))))] ++ (KT Y ak ck ks ++ va_pl L f)) (fun rv w => rv = none ∧ ∃ (f' : Nat → va_E) (wn' bu' : Int32), LI Y V' av cv ak ck ca vs ks L f' (nI m) mo lk wn' qu bu' ∧ w = [(rb, .inr (5, [.ref vl, .ref kl, .ref co, .int (nI m), .int mo, .int lk, .int wn', .int qu, .int bu'])), (vl, .inr (11, [.int mv, .ref av, .int (nI vs.length)])), (av, .inl (Y.2.1 2, cv, .inr (.inr (.inr (.inr (fun k => vs[k]?)))))), (kl, .inr (11, [.int mk, .ref ak, .int (nI ks.length)])), (co, .inl (Y.2.1 4, 6, .inr (.inr (.inr (.inr (fun l => some (ca l)))))))] ++ (KT Y ak ck ks ++ va_pl L f')) 1 4 := by
  obtain ⟨g, Pk, h, hK, hvo, hS, hO, hoV, hoK⟩ := hI
  have n40 := hK.1.1.2.1
  have n1 := hK.1.1.1
  have eru := h.2.2.1.1
  have emo := h.2.2.1.2.1
  have hr := hK.1.2.2.1
  obtain ⟨V', g', e4, -, -⟩ := kk_rule hK hm
  rw [← eru] at e4
  have hgu : NG vs f (upd g 1 (nI m)) := fun p v hp => by rw [pk_un (by omega)]; exact h.1.1 p v hp
  refine ⟨V', e4, ?_⟩
  refine (kX5_build l Dd Y rb vl kl co av cv ak ck ca vs ks L f (nI m) mo lk wn qu bu mv mk (upd g 1 (nI m)) hgu hoV.2 hvo hO n40).imp (fun rv w hp => ?_)
  obtain ⟨f', hB, p1, p2⟩ := hp
  obtain ⟨V2, g2, e2, k2, l2⟩ := h.rule hK hm hvo hS hO hB
  obtain rfl := x_inj e4 e2
  exact ⟨p1, f', _, _, ⟨g2, Pk, l2, k2, hB.vo hvo, hB.so hvo hS hO, hB.2.2.1, hoV, hoK⟩, p2⟩
theorem kMostL {Y : yT} {av cv ak ck : Nat} {ca : Nat → Nat} {vs ks L : List Nat} {f : Nat → va_E} {ru mo lk wn qu bu : Int32} {V : gX} {m : Nat} (hI : LI Y V av cv ak ck ca vs ks L f ru mo lk wn qu bu) (h1 : 1 ≤ m) (h8 : m ≤ 8) : ∃ V' : gX, dnX4_rule V 2 (nI m) = some (.inr (mo, V')) ∧ LI Y V' av cv ak ck ca vs ks L f ru (nI m) lk wn qu bu := by
  obtain ⟨g, Pk, h, hK, hvo, hS, hO, hoV, hoK⟩ := hI
  obtain ⟨V', g', e4, hK', hL'⟩ := h.most hK h1 h8
  exact ⟨V', e4, g', Pk, hL', hK', hvo, hS, hO, hoV, hoK⟩
theorem kKeepL {Y : yT} {av cv ak ck ak' ck' : Nat} {ca : Nat → Nat} {vs ks L : List Nat} {f : Nat → va_E} {ru mo lk wn qu bu : Int32} {V : gX} {a b va vb q : Nat} (hI : LI Y V av cv ak ck ca vs ks L f ru mo lk wn qu bu) (hab : a ≤ b) (ha0 : vs[a]? = some va) (hb0 : vs[b]? = some vb) (h8 : ks.length < 8) (hq : q ∉ L) (hok : okL Y ak' ck' (ks ++ [q])) : ∃ V' : gX, dnX4_keep V (nI a) (nI b) = some (.inr (nI (ks.length + 1), V')) ∧ LI Y V' av cv ak' ck' ca vs (ks ++ [q]) (L ++ [q]) (va_up f q (sE va vb)) ru mo lk wn qu bu := by
  obtain ⟨g, Pk, h, hK, hvo, hS, hO, hoV, hoK⟩ := hI
  obtain ⟨⟨V', g', e4, hK', hL'⟩, v1, s1, o1⟩ := h.keep hK hvo hS hO hab ha0 hb0 h8 hq
  exact ⟨V', e4, g', _, hL', hK', v1, s1, o1, hoV, hok⟩
theorem LI.gap {Y : yT} {av cv ak ck : Nat} {ca : Nat → Nat} {vs ks L : List Nat} {f : Nat → va_E} {ru mo lk wn qu bu : Int32} {V : gX} (hI : LI Y V av cv ak ck ca vs ks L f ru mo lk wn qu bu) : dnX4_gap V = some 0 := by
  obtain ⟨g, Pk, h, hK, -⟩ := hI
  exact kk_gap hK
theorem LI.n {Y : yT} {av cv ak ck : Nat} {ca : Nat → Nat} {vs ks L : List Nat} {f : Nat → va_E} {ru mo lk wn qu bu : Int32} {V : gX} (hI : LI Y V av cv ak ck ca vs ks L f ru mo lk wn qu bu) : 1 ≤ vs.length ∧ vs.length ≤ 40 ∧ ks.length ≤ 8 ∧ okL Y av cv vs ∧ okL Y ak ck ks ∧ VO L vs f ∧ SO L ks f := by
  obtain ⟨g, Pk, h, hK, hvo, hS, hO, hoV, hoK⟩ := hI
  exact ⟨hK.1.1.1, hK.1.1.2.1, hK.1.2.1.1, hoV, hoK, hvo, hS⟩
theorem kSoL (l : Launch) (Dd : va_G) (Y : yT) (rb vl kl co av cv ak ck : Nat) (ca : Nat → Nat) (vs ks L : List Nat) (f : Nat → va_E) (ru mo lk wn qu bu mv mk : Int32) (V : gX) (ad : Nat → Nat → Nat) (hls : l.stackTraces = false) (hI : LI Y V av cv ak ck ca vs ks L f ru mo lk wn qu bu) : MR l yX5_isSo wsX5_isSo rmX5_isSo Dd Y [.ref rb, .ref (ad 0 0)] ([(rb, .inr (5, [.ref vl, .ref kl, .ref co, .int ru, .int mo, .int lk, .int wn, .int qu, .int bu])), (vl, .inr (11, [.int mv, .ref av, .int (nI vs.length)])), (av, .inl (Y.2.1 2, cv, .inr (.inr (.inr (.inr (fun k => vs[k]?)))))), (kl, .inr (11, [.int mk, .ref ak, .int (nI ks.length)])), (co, .inl (Y.2.1 4, 6, .inr (.inr (.inr (.inr (fun l => some (ca l)))))))] ++ ((KT Y ak ck ks ++ WX Y ad V) ++ va_pl L f)) (fun rv w => rv = some (.int 1) ∧ w = [(rb, .inr (5, [.ref vl, .ref kl, .ref co, .int ru, .int mo, .int lk, .int wn, .int qu, .int bu])), (vl, .inr (11, [.int mv, .ref av, .int (nI vs.length)])), (av, .inl (Y.2.1 2, cv, .inr (.inr (.inr (.inr (fun k => vs[k]?)))))), (kl, .inr (11, [.int mk, .ref ak, .int (nI ks.length)])), (co, .inl (Y.2.1 4, 6, .inr (.inr (.inr (.inr (fun l => some (ca l)))))))] ++ ((KT Y ak ck ks ++ WX Y ad V) ++ va_pl L f)) 500 3000 := by
  obtain ⟨g, Pk, h, hK, hvo, hS, hO, hoV, hoK⟩ := hI
  have n40 := hK.1.1.2.1
  have n1 := hK.1.1.1
  have eru := h.2.2.1.1
  have emo := h.2.2.1.2.1
  have hr := hK.1.2.2.1
  obtain ⟨s1, s2, s3, s4, s5, s6, s7, s8, s9, s10, s11⟩ := h.so (L := L) hK
  exact kX5_isSo l Dd Y rb vl kl co av cv ak ck ca vs ks L f ru mo lk wn qu bu mv mk ad V g hls h.1.1 h.1.2 hoV.2 hoK hvo hO hS n40 hK.1.2.1.1 s1 s2 s3 s4 s5 s6 s7 s8 s9 s10 s11
