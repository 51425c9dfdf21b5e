theorem sub_p1 (a b : Nat) : nI a - nI b + 1 = nI (a + 1) - nI b := by
  rw [← nI_1, Int32.sub_eq_add_neg, Int32.sub_eq_add_neg, Int32.add_assoc, Int32.add_assoc, Int32.add_comm (-nI b) 1]
theorem nI_dbl2 (a : Nat) : 2 * nI a = nI (2 * a) := (Int32.ofNat_mul 2 a).symm
theorem wn_2 (w : Int32) (c : Nat) : w + nI c + 2 = w + nI (c + 2) := by rw [Int32.add_assoc, show (2 : Int32) = nI 2 from rfl, nI_add]
theorem lgl_t : ∀ r : Nat, r < 41 → ∀ t : Nat, t < 6 → 2 ^ t ≤ r → r < 2 ^ (t + 1) → lgl r = t := by decide +kernel
theorem rl_e {r t : Nat} (h1 : 2 ^ t ≤ r) (h2 : r < 2 ^ (t + 1)) (hr : r < 41) (ht : t < 6) : rl r = if r = 2 ^ t then 1 else 2 := by
  have h0 : 0 < 2 ^ t := Nat.two_pow_pos t
  unfold rl
  rw [if_neg (by omega), lgl_t r hr t ht h1 h2]
def Wg (g : Nat → Int32) (p : Nat) : Bool := decide (g (52 + p) = 1)
theorem Wg_1 {g : Nat → Int32} {p : Nat} (h : g (52 + p) = 1) : Wg g p = true := decide_eq_true h
theorem Wg_0 {g : Nat → Int32} {p : Nat} (h : g (52 + p) = 0) : ¬ Wg g p = true := fun q => by
  have := of_decide_eq_true q
  rw [h] at this; exact absurd this (by decide)
/-- the cells tell the least where nothing waits -/
def HCo (vs : List Nat) (ca : Nat → Nat) (f : Nat → va_E) (g : Nat → Int32) : Prop := ∀ l p : Nat, 1 ≤ l → l ≤ 5 → p + 2 ^ l ≤ vs.length → (∀ j : Nat, p ≤ j → j < p + 2 ^ l → g (52 + j) = 0) → clA (f (ca l)) p = vs[lm g p (2 ^ l - 1)]?
theorem isL_1 (g : Nat → Int32) (a : Nat) : isL g a a a := lm_is g a 0
theorem isL_p {g : Nat → Int32} {p t : Nat} : isL g p (p + 2 ^ t - 1) (lm g p (2 ^ t - 1)) := by
  have h0 : 0 < 2 ^ t := Nat.two_pow_pos t
  have := lm_is g p (2 ^ t - 1)
  rw [show p + (2 ^ t - 1) = p + 2 ^ t - 1 by omega] at this
  exact this
theorem isL_le {g : Nat → Int32} {a b c a' b' c' : Nat} (h : isL g a b c) (h' : isL g a' b' c') (h1 : a ≤ a') (h2 : a' ≤ b + 1) (h3 : b ≤ b') (e : g (12 + c) ≤ g (12 + c')) : isL g a b' c := by
  have := lesM_is h h' h1 h2 h3
  rw [if_pos e] at this; exact this
theorem isL_gt {g : Nat → Int32} {a b c a' b' c' : Nat} (h : isL g a b c) (h' : isL g a' b' c') (h1 : a ≤ a') (h2 : a' ≤ b + 1) (h3 : b ≤ b') (e : ¬ g (12 + c) ≤ g (12 + c')) : isL g a b' c' := by
  have := lesM_is h h' h1 h2 h3
  rw [if_neg e] at this; exact this
def clrW (g : Nat → Int32) (k : Nat) : Int32 := if 52 ≤ k ∧ k < 92 then 0 else g k
theorem BLD.vo {Y : yT} {vs L : List Nat} {ca : Nat → Nat} {g : Nat → Int32} {f f' : Nat → va_E} (h : BLD Y vs L ca g f f') (hv : VO L vs f) : VO L vs f' := ⟨hv.1, fun v hm => ⟨(hv.2 v hm).1, by rw [h.2.1 v hm]; exact isV_vE (Or.inl rfl)⟩⟩
theorem lm_clrW {g : Nat → Int32} {a d n : Nat} (h : a + d < n) (hn : n ≤ 40) : lm (clrW g) a d = lm g a d := lm_cg d (fun j _ h2 => by unfold clrW; rw [if_neg (by omega)])
theorem BLD.ng {Y : yT} {vs L : List Nat} {ca : Nat → Nat} {g : Nat → Int32} {f f' : Nat → va_E} (h : BLD Y vs L ca g f f') (hg : NG vs f g) (h3 : vs.length ≤ 40) : NG vs f' (clrW g) := fun p v hp => by
  have := (List.getElem?_eq_some_iff.mp hp).1
  rw [h.2.1 v (List.mem_of_getElem? hp)]
  unfold clrW
  rw [if_neg (by omega)]
  exact hg p v hp
theorem BLD.nw {Y : yT} {vs L : List Nat} {ca : Nat → Nat} {g : Nat → Int32} {f f' : Nat → va_E} (h : BLD Y vs L ca g f f') (h3 : vs.length ≤ 40) : NW vs f' (clrW g) := fun p v hp => by
  have := (List.getElem?_eq_some_iff.mp hp).1
  rw [h.2.1 v (List.mem_of_getElem? hp)]
  unfold clrW
  rw [if_pos (by omega)]; rfl
theorem BLD.hc {Y : yT} {vs L : List Nat} {ca : Nat → Nat} {g : Nat → Int32} {f f' : Nat → va_E} (h : BLD Y vs L ca g f f') (h3 : vs.length ≤ 40) : HCo vs ca f' (clrW g) := fun l p q1 q5 q2 _ => by
  have h0 : 0 < 2 ^ l := Nat.two_pow_pos l
  rw [lm_clrW (n := vs.length) (by omega) h3]
  exact h.2.2.2 l p q1 q5 q2
abbrev rmX5_ask : Room := { frames := 6, cells := 2, slots := 8, locals := 135 }
set_option maxRecDepth 100000 in
set_option maxHeartbeats 4000000 in
theorem kX5_ask (l : Launch) (Dd : va_G) (Y : yT) (rb vl kl co av cv ak ck : Nat) (ca : Nat → Nat) (vs ks L : List Nat) (f : Nat → va_E) (ru mo lk wn qu bu mv mk : Int32) (a b : Nat) (g : Nat → Int32) (hg : NG vs f g) (hw : NW vs f g) (hC : vs.length ≤ cv ∧ cv ≤ 600) (hvo : VO L vs f) (hO : CO Y L ca f) (hH : HCo vs ca f g) (h3 : vs.length ≤ 40) (hab : a ≤ b) (hbn : b < vs.length) (hru : ¬ ru = 0) : MR l yX5_ask wsX5_ask rmX5_ask Dd Y [.ref rb, .int (nI a), .int (nI b)] ([(rb, .inr (5, [.ref vl, .ref kl, .ref co, .int ru, .int mo, .int lk, .int wn, .int qu, .int bu])), (vl, .inr (11, [.int mv, .ref av, .int (nI vs.length)])), (av, .inl (Y.2.1 2, cv, .inr (.inr (.inr (.inr (fun k => vs[k]?)))))), (kl, .inr (11, [.int mk, .ref ak, .int (nI ks.length)])), (co, .inl (Y.2.1 4, 6, .inr (.inr (.inr (.inr (fun l => some (ca l)))))))] ++ (KT Y ak ck ks ++ va_pl L f)) (fun rv w => rv = some (.int (nI (lm g a (b - a)))) ∧ w = [(rb, .inr (5, [.ref vl, .ref kl, .ref co, .int ru, .int mo, .int (lk + nI (cl (Wg g) (b + 1 - a) a 0)), .int wn, .int (qu + 1), .int bu])), (vl, .inr (11, [.int mv, .ref av, .int (nI vs.length)])), (av, .inl (Y.2.1 2, cv, .inr (.inr (.inr (.inr (fun k => vs[k]?)))))), (kl, .inr (11, [.int mk, .ref ak, .int (nI ks.length)])), (co, .inl (Y.2.1 4, 6, .inr (.inr (.inr (.inr (fun l => some (ca l)))))))] ++ (KT Y ak ck ks ++ va_pl L f)) 2 8 := by
  refine MRk (cc := cX5_ask) (maxL := 10) (ret := (some .int)) (by decide) rfl (Nat.le_of_ble_eq_true rfl) (fun {p₀ e₀ s m args below meth c₀ A} ls Q X hin hW hl hI hV hA => ?_)
  have hx := X.x
  have hb := X.b
  have hl : lv_has ls 10 [(0, .ref rb), (1, .int (nI a)), (2, .int (nI b))] := hl
  have hinX5 : ∀ w ∈ wsX50, w ∈ wsX5_ask := fun w h => List.mem_cons_of_mem _ (List.mem_append_left _ (List.mem_append_left _ (List.mem_append_left _ (List.mem_append_right _ h))))
  have hinX7 : ∀ w ∈ wsX70, w ∈ wsX5_ask := fun w h => List.mem_cons_of_mem _ (List.mem_append_left _ (List.mem_append_left _ (List.mem_append_right _ h)))
  refine lv_aload_n hx hb dX5_ask_0 rfl (lv_at hl 0 rfl) ?_
  refine g_ X hinX5 hW 0 rfl rfl 3 (by decide) 1 rfl rfl rfl dX5_ask_1 ?_
  refine lv_if_ne (tgt := 18) hx hb dX5_ask_4 (by decide) (fun _ => ?_) (fun h => absurd h hru)
  refine lv_aload_n hx hb dX5_ask_18 rfl (lv_at hl 0 rfl) ?_
  refine lv_dup hx hb dX5_ask_19 rfl ?_
  refine g_ X hinX5 hW 0 rfl rfl 7 (by decide) 2 rfl rfl rfl dX5_ask_20 ?_
  refine lv_iconst (v := 1) hx hb dX5_ask_23 (by decide) ?_
  refine lv_iadd hx hb dX5_ask_24 ?_
  refine p_ (ty := .int) X hinX5 tyX5 tyX5_ok nmX5 hW 0 rfl rfl 7 (by decide) 2 rfl rfl rfl (by decide +kernel) rfl rfl (Nat.le_of_ble_eq_true rfl) dX5_ask_25 (ws' := [(rb, .inr (5, [.ref vl, .ref kl, .ref co, .int ru, .int mo, .int lk, .int wn, .int (qu + 1), .int bu])), (vl, .inr (11, [.int mv, .ref av, .int (nI vs.length)])), (av, .inl (Y.2.1 2, cv, .inr (.inr (.inr (.inr (fun k => vs[k]?)))))), (kl, .inr (11, [.int mk, .ref ak, .int (nI ks.length)])), (co, .inl (Y.2.1 4, 6, .inr (.inr (.inr (.inr (fun l => some (ca l)))))))] ++ (KT Y ak ck ks ++ va_pl L f)) rfl (fun H locs hW => ?_)
  refine lv_null hx hb dX5_ask_28 ?_
  refine lv_astore_nN (lv' := [(3, .null), (0, .ref rb), (1, .int (nI a)), (2, .int (nI b))]) hx hb dX5_ask_29 rfl hl (by decide) rfl (fun ls hl => ?_)
  refine lv_iload_n hx hb dX5_ask_30 rfl (lv_at hl 2 rfl) ?_
  refine lv_istore (lv' := [(4, .int (nI a)), (3, .null), (0, .ref rb), (1, .int (nI a)), (2, .int (nI b))]) hx hb dX5_ask_31 hl (by decide) rfl (fun ls hl => ?_)
  have lpo : ∀ (d : Nat) (j : Nat) (kc : Nat) (bv : Value) (H : Heap) (locs : List Loc) (ls : Array Slot), (hj : a ≤ j ∧ j ≤ b + 1) → (hkc : kc + cl (Wg g) (b + 1 - j) j 0 = cl (Wg g) (b + 1 - a) a 0) → (hbv : (j = a ∧ bv = .null) ∨ (a < j ∧ ∃ v : Nat, bv = .ref v ∧ vs[lm g a (j - 1 - a)]? = some v)) → (b + 1 < d + j) → lv_has ls 10 [(4, .int (nI j)), (3, bv), (0, .ref rb), (1, .int (nI a)), (2, .int (nI b))] → Wd Dd A s.heap ([(rb, .inr (5, [.ref vl, .ref kl, .ref co, .int ru, .int mo, .int (lk + nI kc), .int wn, .int (qu + 1), .int bu])), (vl, .inr (11, [.int mv, .ref av, .int (nI vs.length)])), (av, .inl (Y.2.1 2, cv, .inr (.inr (.inr (.inr (fun k => vs[k]?)))))), (kl, .inr (11, [.int mk, .ref ak, .int (nI ks.length)])), (co, .inl (Y.2.1 4, 6, .inr (.inr (.inr (.inr (fun l => some (ca l)))))))] ++ (KT Y ak ck ks ++ va_pl L f)) H locs → W p₀ l e₀ rmX5_ask s m args below meth c₀ H locs (0) (0) Q (F0 m 33 ls []) := by
    intro d
    induction d with
    | zero => intro j kc bv H locs ls hj hkc hbv hfu; exact absurd hfu (by omega)
    | succ d ih =>
      intro j kc bv H locs ls hj hkc hbv hfu hl hW
      refine lv_iload hx hb dX5_ask_33 (lv_at hl 0 rfl) ?_
      refine lv_iload_n hx hb dX5_ask_35 rfl (lv_at hl 4 rfl) ?_
      refine lv_icmp_gt (tgt := 271) hx hb dX5_ask_36 (by decide) (fun cq => ?_) (fun cq => ?_)
      · have e : j = b + 1 := by have := (nI_ltI (by omega) (by omega)).mp cq; omega
        obtain ⟨q0, -⟩ | ⟨-, v, rfl, hv⟩ := hbv
        · omega
        refine lv_aload_n hx hb dX5_ask_271 rfl (lv_at hl 2 rfl) ?_
        refine lv_aload_n hx hb dX5_ask_272 rfl (lv_at hl 1 rfl) ?_
        refine rV_ (As := [.ref v]) (rest := []) (wc := [(rb, .inr (5, [.ref vl, .ref kl, .ref co, .int ru, .int mo, .int (lk + nI kc), .int wn, .int (qu + 1), .int bu])), (vl, .inr (11, [.int mv, .ref av, .int (nI vs.length)])), (av, .inl (Y.2.1 2, cv, .inr (.inr (.inr (.inr (fun k => vs[k]?)))))), (kl, .inr (11, [.int mk, .ref ak, .int (nI ks.length)])), (co, .inl (Y.2.1 4, 6, .inr (.inr (.inr (.inr (fun l => some (ca l)))))))] ++ (KT Y ak ck ks ++ va_pl L f)) (w9 := []) X (kX5_placeOf l Dd Y rb vl kl co av cv ak ck ca vs ks L f ru mo (lk + nI kc) wn (qu + 1) bu mv mk v (lm g a (b - a)) hC hvo.1 (by rw [← hv, e, Nat.add_sub_cancel])) (cwV 1 X.1.2.2.2.2 gX5_ask_X5_placeOf rfl rfl rfl (by decide +kernel) ⟨(Nat.le_of_ble_eq_true rfl), (Nat.le_of_ble_eq_true rfl)⟩) hW (by rw [List.append_nil]) 0 5 rfl rfl rfl rfl hl.1 rfl (Nat.le_of_ble_eq_true rfl) dX5_ask_273 ⟨(Nat.le_of_ble_eq_true rfl), (Nat.le_of_ble_eq_true rfl)⟩ (fun rv wq H locs hp hW => ?_)
        obtain ⟨rfl, rfl⟩ := hp
        have hW : Wd Dd A s.heap ([(rb, .inr (5, [.ref vl, .ref kl, .ref co, .int ru, .int mo, .int (lk + nI kc), .int wn, .int (qu + 1), .int bu])), (vl, .inr (11, [.int mv, .ref av, .int (nI vs.length)])), (av, .inl (Y.2.1 2, cv, .inr (.inr (.inr (.inr (fun k => vs[k]?)))))), (kl, .inr (11, [.int mk, .ref ak, .int (nI ks.length)])), (co, .inl (Y.2.1 4, 6, .inr (.inr (.inr (.inr (fun l => some (ca l)))))))] ++ (KT Y ak ck ks ++ va_pl L f)) H locs := by rw [List.append_nil] at hW; exact hW
        refine W.eq (g2 := F0 m 276 ls [.int (nI (lm g a (b - a)))]) rfl ?_
        have ek : kc = cl (Wg g) (b + 1 - a) a 0 := by rw [← hkc, e, Nat.sub_self]; rfl
        exact hI _ _ _ _ _ _ _ _ _ ⟨rfl, by rw [ek]⟩ rfl rfl (Nat.le_of_ble_eq_true rfl) (Nat.le_of_ble_eq_true rfl) hW dX5_ask_276
      · have hle : j ≤ b := Nat.le_of_not_lt (fun h => cq ((nI_ltI (by omega) (by omega)).mpr h))
        have hNW : ∀ p v : Nat, vs[p]? = some v → g (52 + p) = wtA (f v) := hw
        have c97 : ∀ (e : Nat) (H : Heap) (locs : List Loc) (ls : Array Slot), (he : j ≤ e ∧ e ≤ b) → (hcl : cl (Wg g) (b + 1 - j) j 0 = rl (e - j + 1) + cl (Wg g) (b + 1 - (e + 1)) (e + 1) 0) → (hz0 : e = j ∨ ∀ k : Nat, j ≤ k → k ≤ e → g (52 + k) = 0) → lv_has ls 10 [(5, .int (nI e)), (4, .int (nI j)), (3, bv), (0, .ref rb), (1, .int (nI a)), (2, .int (nI b))] → Wd Dd A s.heap ([(rb, .inr (5, [.ref vl, .ref kl, .ref co, .int ru, .int mo, .int (lk + nI kc), .int wn, .int (qu + 1), .int bu])), (vl, .inr (11, [.int mv, .ref av, .int (nI vs.length)])), (av, .inl (Y.2.1 2, cv, .inr (.inr (.inr (.inr (fun k => vs[k]?)))))), (kl, .inr (11, [.int mk, .ref ak, .int (nI ks.length)])), (co, .inl (Y.2.1 4, 6, .inr (.inr (.inr (.inr (fun l => some (ca l)))))))] ++ (KT Y ak ck ks ++ va_pl L f)) H locs → W p₀ l e₀ rmX5_ask s m args below meth c₀ H locs (0) (0) Q (F0 m 97 ls []) := by
          intro e H locs ls he hcl hz0 hl hW
          refine lv_iconst (v := 0) hx hb dX5_ask_97 (by decide) ?_
          refine lv_istore (lv' := [(6, .int 0), (5, .int (nI e)), (4, .int (nI j)), (3, bv), (0, .ref rb), (1, .int (nI a)), (2, .int (nI b))]) hx hb dX5_ask_98 hl (by decide) rfl (fun ls hl => ?_)
          refine lv_iconst (v := 1) hx hb dX5_ask_100 (by decide) ?_
          refine lv_istore (lv' := [(7, .int 1), (6, .int 0), (5, .int (nI e)), (4, .int (nI j)), (3, bv), (0, .ref rb), (1, .int (nI a)), (2, .int (nI b))]) hx hb dX5_ask_101 hl (by decide) rfl (fun ls hl => ?_)
          have lpt : ∀ (d : Nat) (t : Nat) (H : Heap) (locs : List Loc) (ls : Array Slot), (ht : 2 ^ t ≤ e - j + 1 ∧ t ≤ 5) → (6 < d + t) → lv_has ls 10 [(7, .int (nI (2 ^ t))), (6, .int (nI t)), (5, .int (nI e)), (4, .int (nI j)), (3, bv), (0, .ref rb), (1, .int (nI a)), (2, .int (nI b))] → Wd Dd A s.heap ([(rb, .inr (5, [.ref vl, .ref kl, .ref co, .int ru, .int mo, .int (lk + nI kc), .int wn, .int (qu + 1), .int bu])), (vl, .inr (11, [.int mv, .ref av, .int (nI vs.length)])), (av, .inl (Y.2.1 2, cv, .inr (.inr (.inr (.inr (fun k => vs[k]?)))))), (kl, .inr (11, [.int mk, .ref ak, .int (nI ks.length)])), (co, .inl (Y.2.1 4, 6, .inr (.inr (.inr (.inr (fun l => some (ca l)))))))] ++ (KT Y ak ck ks ++ va_pl L f)) H locs → W p₀ l e₀ rmX5_ask s m args below meth c₀ H locs (0) (0) Q (F0 m 103 ls []) := by
            intro d
            induction d with
            | zero => intro t H locs ls ht hfu; exact absurd hfu (by omega)
            | succ d iht =>
              intro t H locs ls ht hfu hl hW
              have hp1 : 2 ^ (t + 1) = 2 * 2 ^ t := by rw [Nat.pow_succ]; omega
              have hp2 : 0 < 2 ^ t := Nat.two_pow_pos t
              refine lv_iconst (v := 2) hx hb dX5_ask_103 (by decide) ?_
              refine lv_iload hx hb dX5_ask_104 (lv_at hl 0 rfl) ?_
              refine lv_imul hx hb dX5_ask_106 ?_
              rw [nI_dbl2]
              refine lv_iload hx hb dX5_ask_107 (lv_at hl 2 rfl) ?_
              refine lv_iload hx hb dX5_ask_109 (lv_at hl 3 rfl) ?_
              refine lv_isub hx hb dX5_ask_111 ?_
              refine lv_iconst (v := 1) hx hb dX5_ask_112 (by decide) ?_
              refine lv_iadd hx hb dX5_ask_113 ?_
              rw [show nI e - nI j + 1 = nI (e - j + 1) from by rw [pk_sub he.1, nI_1]]
              refine lv_icmp_gt (tgt := 129) hx hb dX5_ask_114 (by decide) (fun ct => ?_) (fun ct => ?_)
              · have hr2 : e - j + 1 < 2 * 2 ^ t := (nI_ltI (by omega) (by omega)).mp ct
                have hrl : rl (e - j + 1) = if e - j + 1 = 2 ^ t then 1 else 2 := rl_e ht.1 (by omega) (by omega) (by omega)
                have c247 : ∀ (o1 : Nat) (o2 : Nat) (c2 : Nat) (v3 : Nat) (c3 : Nat) (H : Heap) (locs : List Loc) (ls : Array Slot), (h2 : vs[c2]? = some o2) → (i2 : isL g (e + 1 - 2 ^ t) e c2) → (h3_ : vs[c3]? = some v3) → (i3 : isL g a (j + 2 ^ t - 1) c3) → lv_has ls 10 [(9, .ref o2), (8, .ref o1), (7, .int (nI (2 ^ t))), (6, .int (nI t)), (5, .int (nI e)), (4, .int (nI j)), (3, .ref v3), (0, .ref rb), (1, .int (nI a)), (2, .int (nI b))] → Wd Dd A s.heap ([(rb, .inr (5, [.ref vl, .ref kl, .ref co, .int ru, .int mo, .int (lk + nI (kc + rl (e - j + 1))), .int wn, .int (qu + 1), .int bu])), (vl, .inr (11, [.int mv, .ref av, .int (nI vs.length)])), (av, .inl (Y.2.1 2, cv, .inr (.inr (.inr (.inr (fun k => vs[k]?)))))), (kl, .inr (11, [.int mk, .ref ak, .int (nI ks.length)])), (co, .inl (Y.2.1 4, 6, .inr (.inr (.inr (.inr (fun l => some (ca l)))))))] ++ (KT Y ak ck ks ++ va_pl L f)) H locs → W p₀ l e₀ rmX5_ask s m args below meth c₀ H locs (0) (0) Q (F0 m 247 ls []) := by
                  intro o1 o2 c2 v3 c3 H locs ls h2 i2 h3_ i3 hl hW
                  refine lv_aload hx hb dX5_ask_247 (lv_at hl 0 rfl) ?_
                  refine gVn_ X hinX7 hW (hvo.at h2) dX5_ask_249 ?_
                  refine lv_aload_n hx hb dX5_ask_252 rfl (lv_at hl 6 rfl) ?_
                  refine gVn_ X hinX7 hW (hvo.at h3_) dX5_ask_253 ?_
                  refine lv_icmp_ge (tgt := 262) hx hb dX5_ask_256 (by decide) (fun cb => ?_) (fun cb => ?_)
                  · refine lv_iload hx hb dX5_ask_262 (lv_at hl 4 rfl) ?_
                    refine lv_iconst (v := 1) hx hb dX5_ask_264 (by decide) ?_
                    refine lv_iadd hx hb dX5_ask_265 ?_
                    rw [nI_1]
                    refine lv_istore (lv' := [(4, .int (nI (e + 1))), (9, .ref o2), (8, .ref o1), (7, .int (nI (2 ^ t))), (6, .int (nI t)), (5, .int (nI e)), (3, .ref v3), (0, .ref rb), (1, .int (nI a)), (2, .int (nI b))]) hx hb dX5_ask_266 hl (by decide) rfl (fun ls hl => ?_)
                    refine lv_goto (tgt := 33) hx hb dX5_ask_268 (by decide) ?_
                    have hl : lv_has ls 10 [(4, .int (nI (e + 1))), (3, .ref v3), (0, .ref rb), (1, .int (nI a)), (2, .int (nI b))] := lv_sub hl [0, 6, 7, 8, 9] rfl
                    exact ih (e + 1) (kc + rl (e - j + 1)) (.ref v3) _ _ _ ⟨by omega, by omega⟩ (by rw [← hkc, hcl, Nat.add_assoc]) (Or.inr ⟨by omega, v3, rfl, by rw [Nat.add_sub_cancel, ← lm_of (isL_le i3 i2 (by omega) (by omega) (by omega) (by rw [hg _ _ h3_, hg _ _ h2]; exact cb)) (by omega)]; exact h3_⟩) (by omega) hl hW
                  · refine lv_aload hx hb dX5_ask_259 (lv_at hl 0 rfl) ?_
                    refine lv_astore_n (lv' := [(3, .ref o2), (9, .ref o2), (8, .ref o1), (7, .int (nI (2 ^ t))), (6, .int (nI t)), (5, .int (nI e)), (4, .int (nI j)), (0, .ref rb), (1, .int (nI a)), (2, .int (nI b))]) hx hb dX5_ask_261 rfl hl (by decide) rfl (fun ls hl => ?_)
                    refine lv_iload hx hb dX5_ask_262 (lv_at hl 5 rfl) ?_
                    refine lv_iconst (v := 1) hx hb dX5_ask_264 (by decide) ?_
                    refine lv_iadd hx hb dX5_ask_265 ?_
                    rw [nI_1]
                    refine lv_istore (lv' := [(4, .int (nI (e + 1))), (3, .ref o2), (9, .ref o2), (8, .ref o1), (7, .int (nI (2 ^ t))), (6, .int (nI t)), (5, .int (nI e)), (0, .ref rb), (1, .int (nI a)), (2, .int (nI b))]) hx hb dX5_ask_266 hl (by decide) rfl (fun ls hl => ?_)
                    refine lv_goto (tgt := 33) hx hb dX5_ask_268 (by decide) ?_
                    have hl : lv_has ls 10 [(4, .int (nI (e + 1))), (3, .ref o2), (0, .ref rb), (1, .int (nI a)), (2, .int (nI b))] := lv_sub hl [0, 1, 7, 8, 9] rfl
                    exact ih (e + 1) (kc + rl (e - j + 1)) (.ref o2) _ _ _ ⟨by omega, by omega⟩ (by rw [← hkc, hcl, Nat.add_assoc]) (Or.inr ⟨by omega, o2, rfl, by rw [Nat.add_sub_cancel, ← lm_of (isL_gt i3 i2 (by omega) (by omega) (by omega) (by rw [hg _ _ h3_, hg _ _ h2]; exact cb)) (by omega)]; exact h2⟩) (by omega) hl hW
                have c228 : ∀ (o1 : Nat) (o2 : Nat) (c1 : Nat) (c2 : Nat) (H : Heap) (locs : List Loc) (ls : Array Slot), (h1_ : vs[c1]? = some o1) → (i1 : isL g j (j + 2 ^ t - 1) c1) → (h2 : vs[c2]? = some o2) → (i2 : isL g (e + 1 - 2 ^ t) e c2) → lv_has ls 10 [(9, .ref o2), (8, .ref o1), (7, .int (nI (2 ^ t))), (6, .int (nI t)), (5, .int (nI e)), (4, .int (nI j)), (3, bv), (0, .ref rb), (1, .int (nI a)), (2, .int (nI b))] → Wd Dd A s.heap ([(rb, .inr (5, [.ref vl, .ref kl, .ref co, .int ru, .int mo, .int (lk + nI (kc + rl (e - j + 1))), .int wn, .int (qu + 1), .int bu])), (vl, .inr (11, [.int mv, .ref av, .int (nI vs.length)])), (av, .inl (Y.2.1 2, cv, .inr (.inr (.inr (.inr (fun k => vs[k]?)))))), (kl, .inr (11, [.int mk, .ref ak, .int (nI ks.length)])), (co, .inl (Y.2.1 4, 6, .inr (.inr (.inr (.inr (fun l => some (ca l)))))))] ++ (KT Y ak ck ks ++ va_pl L f)) H locs → W p₀ l e₀ rmX5_ask s m args below meth c₀ H locs (0) (0) Q (F0 m 228 ls []) := by
                  intro o1 o2 c1 c2 H locs ls h1_ i1 h2 i2 hl hW
                  obtain ⟨ej, rfl⟩ | ⟨hja, vb, rfl, hvb⟩ := hbv
                  · refine lv_aload_nN hx hb dX5_ask_228 rfl (lv_at hl 6 rfl) ?_
                    refine lv_ifnullN (tgt := 244) hx hb dX5_ask_229 (by decide) ?_
                    refine lv_aload hx hb dX5_ask_244 (lv_at hl 1 rfl) ?_
                    refine lv_astore_n (lv' := [(3, .ref o1), (9, .ref o2), (8, .ref o1), (7, .int (nI (2 ^ t))), (6, .int (nI t)), (5, .int (nI e)), (4, .int (nI j)), (0, .ref rb), (1, .int (nI a)), (2, .int (nI b))]) hx hb dX5_ask_246 rfl hl (by decide) rfl (fun ls hl => ?_)
                    have hl : lv_has ls 10 [(9, .ref o2), (8, .ref o1), (7, .int (nI (2 ^ t))), (6, .int (nI t)), (5, .int (nI e)), (4, .int (nI j)), (3, .ref o1), (0, .ref rb), (1, .int (nI a)), (2, .int (nI b))] := lv_sub hl [1, 2, 3, 4, 5, 6, 0, 7, 8, 9] rfl
                    exact c247 o1 o2 c2 o1 c1 _ _ _ h2 i2 h1_ (ej ▸ i1) hl hW
                  · refine lv_aload_n hx hb dX5_ask_228 rfl (lv_at hl 6 rfl) ?_
                    refine lv_ifnull hx hb dX5_ask_229 ?_
                    refine lv_aload hx hb dX5_ask_232 (lv_at hl 1 rfl) ?_
                    refine gVn_ X hinX7 hW (hvo.at h1_) dX5_ask_234 ?_
                    refine lv_aload_n hx hb dX5_ask_237 rfl (lv_at hl 6 rfl) ?_
                    refine gVn_ X hinX7 hW (hvo.at hvb) dX5_ask_238 ?_
                    have ib : isL g a (j - 1) (lm g a (j - 1 - a)) := lm_to (by omega)
                    refine lv_icmp_ge (tgt := 247) hx hb dX5_ask_241 (by decide) (fun cb => ?_) (fun cb => ?_)
                    · exact c247 o1 o2 c2 vb _ _ _ _ h2 i2 hvb (isL_le ib i1 (by omega) (by omega) (by omega) (by rw [hg _ _ hvb, hg _ _ h1_]; exact cb)) hl hW
                    · refine lv_aload hx hb dX5_ask_244 (lv_at hl 1 rfl) ?_
                      refine lv_astore_n (lv' := [(3, .ref o1), (9, .ref o2), (8, .ref o1), (7, .int (nI (2 ^ t))), (6, .int (nI t)), (5, .int (nI e)), (4, .int (nI j)), (0, .ref rb), (1, .int (nI a)), (2, .int (nI b))]) hx hb dX5_ask_246 rfl hl (by decide) rfl (fun ls hl => ?_)
                      have hl : lv_has ls 10 [(9, .ref o2), (8, .ref o1), (7, .int (nI (2 ^ t))), (6, .int (nI t)), (5, .int (nI e)), (4, .int (nI j)), (3, .ref o1), (0, .ref rb), (1, .int (nI a)), (2, .int (nI b))] := lv_sub hl [1, 2, 3, 4, 5, 6, 0, 7, 8, 9] rfl
                      exact c247 o1 o2 c2 o1 c1 _ _ _ h2 i2 h1_ (isL_gt ib i1 (by omega) (by omega) (by omega) (by rw [hg _ _ hvb, hg _ _ h1_]; exact cb)) hl hW
                have c200 : ∀ (o1 : Nat) (o2 : Nat) (c1 : Nat) (c2 : Nat) (H : Heap) (locs : List Loc) (ls : Array Slot), (h1_ : vs[c1]? = some o1) → (i1 : isL g j (j + 2 ^ t - 1) c1) → (h2 : vs[c2]? = some o2) → (i2 : isL g (e + 1 - 2 ^ t) e c2) → lv_has ls 10 [(8, .ref o1), (7, .int (nI (2 ^ t))), (6, .int (nI t)), (5, .int (nI e)), (4, .int (nI j)), (3, bv), (0, .ref rb), (1, .int (nI a)), (2, .int (nI b))] → Wd Dd A s.heap ([(rb, .inr (5, [.ref vl, .ref kl, .ref co, .int ru, .int mo, .int (lk + nI kc), .int wn, .int (qu + 1), .int bu])), (vl, .inr (11, [.int mv, .ref av, .int (nI vs.length)])), (av, .inl (Y.2.1 2, cv, .inr (.inr (.inr (.inr (fun k => vs[k]?)))))), (kl, .inr (11, [.int mk, .ref ak, .int (nI ks.length)])), (co, .inl (Y.2.1 4, 6, .inr (.inr (.inr (.inr (fun l => some (ca l)))))))] ++ (KT Y ak ck ks ++ va_pl L f)) H locs → W p₀ l e₀ rmX5_ask s m args below meth c₀ H locs (0) (0) Q (F0 m 200 ls [.ref o2]) := by
                  intro o1 o2 c1 c2 H locs ls h1_ i1 h2 i2 hl hW
                  refine lv_astore (lv' := [(9, .ref o2), (8, .ref o1), (7, .int (nI (2 ^ t))), (6, .int (nI t)), (5, .int (nI e)), (4, .int (nI j)), (3, bv), (0, .ref rb), (1, .int (nI a)), (2, .int (nI b))]) hx hb dX5_ask_200 hl (by decide) rfl (fun ls hl => ?_)
                  refine lv_aload_n hx hb dX5_ask_202 rfl (lv_at hl 7 rfl) ?_
                  refine lv_dup hx hb dX5_ask_203 rfl ?_
                  refine g_ X hinX5 hW 0 rfl rfl 5 (by decide) 6 rfl rfl rfl dX5_ask_204 ?_
                  refine lv_iload hx hb dX5_ask_207 (lv_at hl 2 rfl) ?_
                  refine lv_iload hx hb dX5_ask_209 (lv_at hl 4 rfl) ?_
                  refine lv_iload hx hb dX5_ask_211 (lv_at hl 5 rfl) ?_
                  refine lv_isub hx hb dX5_ask_213 ?_
                  refine lv_iconst (v := 1) hx hb dX5_ask_214 (by decide) ?_
                  refine lv_iadd hx hb dX5_ask_215 ?_
                  rw [show nI e - nI j + 1 = nI (e - j + 1) from by rw [pk_sub he.1, nI_1]]
                  refine lv_icmp_ne (tgt := 223) hx hb dX5_ask_216 (by decide) (fun ce => ?_) (fun ce => ?_)
                  · refine lv_iconst (v := 2) hx hb dX5_ask_223 (by decide) ?_
                    refine lv_iadd hx hb dX5_ask_224 ?_
                    rw [wn_2]
                    refine p_ (ty := .int) X hinX5 tyX5 tyX5_ok nmX5 hW 0 rfl rfl 5 (by decide) 6 rfl rfl rfl (by decide +kernel) rfl rfl (Nat.le_of_ble_eq_true rfl) dX5_ask_225 (ws' := [(rb, .inr (5, [.ref vl, .ref kl, .ref co, .int ru, .int mo, .int (lk + nI (kc + 2)), .int wn, .int (qu + 1), .int bu])), (vl, .inr (11, [.int mv, .ref av, .int (nI vs.length)])), (av, .inl (Y.2.1 2, cv, .inr (.inr (.inr (.inr (fun k => vs[k]?)))))), (kl, .inr (11, [.int mk, .ref ak, .int (nI ks.length)])), (co, .inl (Y.2.1 4, 6, .inr (.inr (.inr (.inr (fun l => some (ca l)))))))] ++ (KT Y ak ck ks ++ va_pl L f)) rfl (fun H locs hW => ?_)
                    rw [show kc + 2 = kc + rl (e - j + 1) from by rw [hrl, if_neg (fun q => ce (congrArg nI q.symm))]] at hW
                    exact c228 o1 o2 c1 c2 _ _ _ h1_ i1 h2 i2 hl hW
                  · refine lv_iconst (v := 1) hx hb dX5_ask_219 (by decide) ?_
                    refine lv_goto (tgt := 224) hx hb dX5_ask_220 (by decide) ?_
                    refine lv_iadd hx hb dX5_ask_224 ?_
                    rw [wn_1]
                    refine p_ (ty := .int) X hinX5 tyX5 tyX5_ok nmX5 hW 0 rfl rfl 5 (by decide) 6 rfl rfl rfl (by decide +kernel) rfl rfl (Nat.le_of_ble_eq_true rfl) dX5_ask_225 (ws' := [(rb, .inr (5, [.ref vl, .ref kl, .ref co, .int ru, .int mo, .int (lk + nI (kc + 1)), .int wn, .int (qu + 1), .int bu])), (vl, .inr (11, [.int mv, .ref av, .int (nI vs.length)])), (av, .inl (Y.2.1 2, cv, .inr (.inr (.inr (.inr (fun k => vs[k]?)))))), (kl, .inr (11, [.int mk, .ref ak, .int (nI ks.length)])), (co, .inl (Y.2.1 4, 6, .inr (.inr (.inr (.inr (fun l => some (ca l)))))))] ++ (KT Y ak ck ks ++ va_pl L f)) rfl (fun H locs hW => ?_)
                    rw [show kc + 1 = kc + rl (e - j + 1) from by rw [hrl, if_pos ((nI_eq (by omega) (by omega)).mp ce).symm]] at hW
                    exact c228 o1 o2 c1 c2 _ _ _ h1_ i1 h2 i2 hl hW
                have c161 : ∀ (o1 : Nat) (c1 : Nat) (H : Heap) (locs : List Loc) (ls : Array Slot), (h1_ : vs[c1]? = some o1) → (i1 : isL g j (j + 2 ^ t - 1) c1) → lv_has ls 10 [(7, .int (nI (2 ^ t))), (6, .int (nI t)), (5, .int (nI e)), (4, .int (nI j)), (3, bv), (0, .ref rb), (1, .int (nI a)), (2, .int (nI b))] → Wd Dd A s.heap ([(rb, .inr (5, [.ref vl, .ref kl, .ref co, .int ru, .int mo, .int (lk + nI kc), .int wn, .int (qu + 1), .int bu])), (vl, .inr (11, [.int mv, .ref av, .int (nI vs.length)])), (av, .inl (Y.2.1 2, cv, .inr (.inr (.inr (.inr (fun k => vs[k]?)))))), (kl, .inr (11, [.int mk, .ref ak, .int (nI ks.length)])), (co, .inl (Y.2.1 4, 6, .inr (.inr (.inr (.inr (fun l => some (ca l)))))))] ++ (KT Y ak ck ks ++ va_pl L f)) H locs → W p₀ l e₀ rmX5_ask s m args below meth c₀ H locs (0) (0) Q (F0 m 161 ls [.ref o1]) := by
                  intro o1 c1 H locs ls h1_ i1 hl hW
                  refine lv_astore (lv' := [(8, .ref o1), (7, .int (nI (2 ^ t))), (6, .int (nI t)), (5, .int (nI e)), (4, .int (nI j)), (3, bv), (0, .ref rb), (1, .int (nI a)), (2, .int (nI b))]) hx hb dX5_ask_161 hl (by decide) rfl (fun ls hl => ?_)
                  refine lv_iload hx hb dX5_ask_163 (lv_at hl 2 rfl) ?_
                  refine lv_if_ne (tgt := 185) hx hb dX5_ask_165 (by decide) (fun cz => ?_) (fun cz => ?_)
                  · have ht0 : 1 ≤ t := Nat.one_le_iff_ne_zero.mpr (fun q => cz (by rw [q]; rfl))
                    have hzz : ∀ k : Nat, j ≤ k → k ≤ e → g (52 + k) = 0 := hz0.resolve_left (fun q => by have : 2 ^ 1 ≤ 2 ^ t := Nat.pow_le_pow_right (by decide) ht0; omega)
                    refine lv_aload_n hx hb dX5_ask_185 rfl (lv_at hl 6 rfl) ?_
                    refine g_ X hinX5 hW 0 rfl rfl 2 (by decide) 5 rfl rfl rfl dX5_ask_186 ?_
                    refine lv_iload hx hb dX5_ask_189 (lv_at hl 2 rfl) ?_
                    refine aO_ X hW 4 rfl (vp_in_nI (by omega) (by decide)) dX5_ask_191 ?_
                    rw [nI_clamp (by omega)]
                    refine W.eq (g2 := F0 m 192 ls [.ref (ca t)]) rfl ?_
                    refine lv_iload hx hb dX5_ask_192 (lv_at hl 3 rfl) ?_
                    refine lv_iload hx hb dX5_ask_194 (lv_at hl 1 rfl) ?_
                    refine lv_isub hx hb dX5_ask_196 ?_
                    refine lv_iconst (v := 1) hx hb dX5_ask_197 (by decide) ?_
                    refine lv_iadd hx hb dX5_ask_198 ?_
                    rw [show nI e - nI (2 ^ t) + 1 = nI (e + 1 - 2 ^ t) from by rw [sub_p1]; exact pk_sub (by omega)]
                    obtain ⟨o2, hv2⟩ := vs_at (vs := vs) (p := lm g (e + 1 - 2 ^ t) (2 ^ t - 1)) (lm_n (by omega))
                    have hv2c : clA (f (ca t)) (e + 1 - 2 ^ t) = some o2 := (hH t (e + 1 - 2 ^ t) ht0 ht.2 (by omega) (fun k q1 q2 => hzz k (by omega) (by omega))).trans hv2
                    refine aC_ X hW (hO.1 t (by omega)) (vp_in_nI (by omega) (by decide)) dX5_ask_199 ?_
                    rw [nI_clamp (by omega), hv2c]
                    refine W.eq (g2 := F0 m 200 ls [.ref o2]) rfl ?_
                    have i2 : isL g (e + 1 - 2 ^ t) e (lm g (e + 1 - 2 ^ t) (2 ^ t - 1)) := by have q := isL_p (g := g) (p := e + 1 - 2 ^ t) (t := t); rw [show e + 1 - 2 ^ t + 2 ^ t - 1 = e by omega] at q; exact q
                    exact c200 o1 o2 c1 _ _ _ _ h1_ i1 hv2 i2 hl hW
                  · have ht0 : t = 0 := by have := (nI_eq (b := 0) (by omega) (by decide)).mp cz; exact this
                    obtain ⟨o2, hv2⟩ := vs_at (vs := vs) (p := e) (by omega)
                    refine lv_aload_n hx hb dX5_ask_168 rfl (lv_at hl 6 rfl) ?_
                    refine g_ X hinX5 hW 0 rfl rfl 0 (by decide) 3 rfl rfl rfl dX5_ask_169 ?_
                    refine lv_iload hx hb dX5_ask_172 (lv_at hl 3 rfl) ?_
                    refine rF_ (As := [.int (nI e)]) (rest := []) (wc := [(vl, .inr (11, [.int mv, .ref av, .int (nI vs.length)])), (av, .inl (Y.2.1 2, cv, .inr (.inr (.inr (.inr (fun k => vs[k]?))))))]) (w9 := [(rb, .inr (5, [.ref vl, .ref kl, .ref co, .int ru, .int mo, .int (lk + nI kc), .int wn, .int (qu + 1), .int bu])), (kl, .inr (11, [.int mk, .ref ak, .int (nI ks.length)])), (co, .inl (Y.2.1 4, 6, .inr (.inr (.inr (.inr (fun l => some (ca l)))))))] ++ (KT Y ak ck ks ++ va_pl L f)) X 1 (kJx4a65c_get_915e3 l Dd Y vl av cv vs.length e mv (fun k => vs[k]?) (by omega) hC.1 (by omega)) gX5_ask_Jx4a65c_get_915e3_f30Jx4a65c rfl rfl rfl (by decide +kernel) (by decide +kernel) ⟨(Nat.le_of_ble_eq_true rfl), (Nat.le_of_ble_eq_true rfl)⟩ hW (pmq27 _ _ _ _ _ _) 0 11 rfl rfl rfl rfl hl.1 rfl (Nat.le_of_ble_eq_true rfl) dX5_ask_174 ⟨(Nat.le_of_ble_eq_true rfl), (Nat.le_of_ble_eq_true rfl)⟩ (fun rv wq H locs hp hW => ?_)
                    obtain ⟨rfl, rfl⟩ := hp
                    have hW : Wd Dd A s.heap ([(vl, .inr (11, [.int mv, .ref av, .int (nI vs.length)])), (av, .inl (Y.2.1 2, cv, .inr (.inr (.inr (.inr (fun k => vs[k]?)))))), (rb, .inr (5, [.ref vl, .ref kl, .ref co, .int ru, .int mo, .int (lk + nI kc), .int wn, .int (qu + 1), .int bu])), (kl, .inr (11, [.int mk, .ref ak, .int (nI ks.length)])), (co, .inl (Y.2.1 4, 6, .inr (.inr (.inr (.inr (fun l => some (ca l)))))))] ++ (KT Y ak ck ks ++ va_pl L f)) H locs := hW
                    have hW : Wd Dd A s.heap ([(rb, .inr (5, [.ref vl, .ref kl, .ref co, .int ru, .int mo, .int (lk + nI kc), .int wn, .int (qu + 1), .int bu])), (vl, .inr (11, [.int mv, .ref av, .int (nI vs.length)])), (av, .inl (Y.2.1 2, cv, .inr (.inr (.inr (.inr (fun k => vs[k]?)))))), (kl, .inr (11, [.int mk, .ref ak, .int (nI ks.length)])), (co, .inl (Y.2.1 4, 6, .inr (.inr (.inr (.inr (fun l => some (ca l)))))))] ++ (KT Y ak ck ks ++ va_pl L f)) H locs := hW.permA (pmq28 _ _ _ _ _ _)
                    refine W.eq (g2 := F0 m 179 ls [va_rf vs[e]?]) rfl ?_
                    rw [hv2]
                    refine W.eq (g2 := F0 m 179 ls [.ref o2]) rfl ?_
                    refine vCa_ X hW (hvo.at hv2) (i := 4) rfl dX5_ask_179 ?_
                    refine lv_goto (tgt := 200) hx hb dX5_ask_182 (by decide) ?_
                    have i2 : isL g (e + 1 - 2 ^ t) e e := by rw [ht0]; exact isL_1 g e
                    exact c200 o1 o2 c1 _ _ _ _ h1_ i1 hv2 i2 hl hW
                refine lv_iload hx hb dX5_ask_129 (lv_at hl 1 rfl) ?_
                refine lv_if_ne (tgt := 151) hx hb dX5_ask_131 (by decide) (fun cz => ?_) (fun cz => ?_)
                · have ht0 : 1 ≤ t := Nat.one_le_iff_ne_zero.mpr (fun q => cz (by rw [q]; rfl))
                  have hzz : ∀ k : Nat, j ≤ k → k ≤ e → g (52 + k) = 0 := hz0.resolve_left (fun q => by have : 2 ^ 1 ≤ 2 ^ t := Nat.pow_le_pow_right (by decide) ht0; omega)
                  refine lv_aload_n hx hb dX5_ask_151 rfl (lv_at hl 5 rfl) ?_
                  refine g_ X hinX5 hW 0 rfl rfl 2 (by decide) 5 rfl rfl rfl dX5_ask_152 ?_
                  refine lv_iload hx hb dX5_ask_155 (lv_at hl 1 rfl) ?_
                  refine aO_ X hW 4 rfl (vp_in_nI (by omega) (by decide)) dX5_ask_157 ?_
                  rw [nI_clamp (by omega)]
                  refine W.eq (g2 := F0 m 158 ls [.ref (ca t)]) rfl ?_
                  refine lv_iload hx hb dX5_ask_158 (lv_at hl 3 rfl) ?_
                  obtain ⟨o1, hv1⟩ := vs_at (vs := vs) (p := lm g j (2 ^ t - 1)) (lm_n (by omega))
                  have hv1c : clA (f (ca t)) j = some o1 := (hH t j ht0 ht.2 (by omega) (fun k q1 q2 => hzz k (by omega) (by omega))).trans hv1
                  refine aC_ X hW (hO.1 t (by omega)) (vp_in_nI (by omega) (by decide)) dX5_ask_160 ?_
                  rw [nI_clamp (by omega), hv1c]
                  refine W.eq (g2 := F0 m 161 ls [.ref o1]) rfl ?_
                  exact c161 o1 _ _ _ _ hv1 isL_p hl hW
                · have ht0 : t = 0 := by have := (nI_eq (b := 0) (by omega) (by decide)).mp cz; exact this
                  obtain ⟨o1, hv1⟩ := vs_at (vs := vs) (p := j) (by omega)
                  refine lv_aload_n hx hb dX5_ask_134 rfl (lv_at hl 5 rfl) ?_
                  refine g_ X hinX5 hW 0 rfl rfl 0 (by decide) 3 rfl rfl rfl dX5_ask_135 ?_
                  refine lv_iload hx hb dX5_ask_138 (lv_at hl 3 rfl) ?_
                  refine rF_ (As := [.int (nI j)]) (rest := []) (wc := [(vl, .inr (11, [.int mv, .ref av, .int (nI vs.length)])), (av, .inl (Y.2.1 2, cv, .inr (.inr (.inr (.inr (fun k => vs[k]?))))))]) (w9 := [(rb, .inr (5, [.ref vl, .ref kl, .ref co, .int ru, .int mo, .int (lk + nI kc), .int wn, .int (qu + 1), .int bu])), (kl, .inr (11, [.int mk, .ref ak, .int (nI ks.length)])), (co, .inl (Y.2.1 4, 6, .inr (.inr (.inr (.inr (fun l => some (ca l)))))))] ++ (KT Y ak ck ks ++ va_pl L f)) X 1 (kJx4a65c_get_915e3 l Dd Y vl av cv vs.length j mv (fun k => vs[k]?) (by omega) hC.1 (by omega)) gX5_ask_Jx4a65c_get_915e3_f30Jx4a65c rfl rfl rfl (by decide +kernel) (by decide +kernel) ⟨(Nat.le_of_ble_eq_true rfl), (Nat.le_of_ble_eq_true rfl)⟩ hW (pmq27 _ _ _ _ _ _) 0 11 rfl rfl rfl rfl hl.1 rfl (Nat.le_of_ble_eq_true rfl) dX5_ask_140 ⟨(Nat.le_of_ble_eq_true rfl), (Nat.le_of_ble_eq_true rfl)⟩ (fun rv wq H locs hp hW => ?_)
                  obtain ⟨rfl, rfl⟩ := hp
                  have hW : Wd Dd A s.heap ([(vl, .inr (11, [.int mv, .ref av, .int (nI vs.length)])), (av, .inl (Y.2.1 2, cv, .inr (.inr (.inr (.inr (fun k => vs[k]?)))))), (rb, .inr (5, [.ref vl, .ref kl, .ref co, .int ru, .int mo, .int (lk + nI kc), .int wn, .int (qu + 1), .int bu])), (kl, .inr (11, [.int mk, .ref ak, .int (nI ks.length)])), (co, .inl (Y.2.1 4, 6, .inr (.inr (.inr (.inr (fun l => some (ca l)))))))] ++ (KT Y ak ck ks ++ va_pl L f)) H locs := hW
                  have hW : Wd Dd A s.heap ([(rb, .inr (5, [.ref vl, .ref kl, .ref co, .int ru, .int mo, .int (lk + nI kc), .int wn, .int (qu + 1), .int bu])), (vl, .inr (11, [.int mv, .ref av, .int (nI vs.length)])), (av, .inl (Y.2.1 2, cv, .inr (.inr (.inr (.inr (fun k => vs[k]?)))))), (kl, .inr (11, [.int mk, .ref ak, .int (nI ks.length)])), (co, .inl (Y.2.1 4, 6, .inr (.inr (.inr (.inr (fun l => some (ca l)))))))] ++ (KT Y ak ck ks ++ va_pl L f)) H locs := hW.permA (pmq28 _ _ _ _ _ _)
                  refine W.eq (g2 := F0 m 145 ls [va_rf vs[j]?]) rfl ?_
                  rw [hv1]
                  refine W.eq (g2 := F0 m 145 ls [.ref o1]) rfl ?_
                  refine vCa_ X hW (hvo.at hv1) (i := 4) rfl dX5_ask_145 ?_
                  refine lv_goto (tgt := 161) hx hb dX5_ask_148 (by decide) ?_
                  exact c161 o1 _ _ _ _ hv1 (by rw [ht0]; exact isL_1 g j) hl hW
              · have hr : 2 * 2 ^ t ≤ e - j + 1 := Nat.le_of_not_lt (fun h => ct ((nI_ltI (by omega) (by omega)).mpr h))
                refine lv_iload hx hb dX5_ask_117 (lv_at hl 0 rfl) ?_
                refine lv_iconst (v := 2) hx hb dX5_ask_119 (by decide) ?_
                refine lv_imul hx hb dX5_ask_120 ?_
                rw [nI_dbl, Nat.mul_comm, ← hp1]
                refine lv_istore (lv' := [(7, .int (nI (2 ^ (t + 1)))), (6, .int (nI t)), (5, .int (nI e)), (4, .int (nI j)), (3, bv), (0, .ref rb), (1, .int (nI a)), (2, .int (nI b))]) hx hb dX5_ask_121 hl (by decide) rfl (fun ls hl => ?_)
                refine lv_iinc (v := (nI t) + 1) (lv' := [(6, .int ((nI t) + 1)), (7, .int (nI (2 ^ (t + 1)))), (5, .int (nI e)), (4, .int (nI j)), (3, bv), (0, .ref rb), (1, .int (nI a)), (2, .int (nI b))]) hx hb dX5_ask_123 hl (k := 1) rfl rfl (by decide) rfl (fun ls hl => ?_)
                rw [nI_1] at hl
                refine lv_goto (tgt := 103) hx hb dX5_ask_126 (by decide) ?_
                have hl : lv_has ls 10 [(7, .int (nI (2 ^ (t + 1)))), (6, .int (nI (t + 1))), (5, .int (nI e)), (4, .int (nI j)), (3, bv), (0, .ref rb), (1, .int (nI a)), (2, .int (nI b))] := lv_sub hl [1, 0, 2, 3, 4, 5, 6, 7] rfl
                exact iht (t + 1) _ _ _ ⟨by omega, by have := pw_5 (l := t + 1) (n := 40) (by omega) (Nat.le_refl _); omega⟩ (by omega) hl hW
          exact lpt 7 0 _ _ _ ⟨by show 1 ≤ _; omega, by decide⟩ (by decide) hl hW
        obtain ⟨v0, hv0⟩ := vs_at (vs := vs) (p := j) (by omega)
        refine lv_iload hx hb dX5_ask_39 (lv_at hl 0 rfl) ?_
        refine lv_istore (lv' := [(5, .int (nI j)), (4, .int (nI j)), (3, bv), (0, .ref rb), (1, .int (nI a)), (2, .int (nI b))]) hx hb dX5_ask_41 hl (by decide) rfl (fun ls hl => ?_)
        refine lv_aload_n hx hb dX5_ask_43 rfl (lv_at hl 3 rfl) ?_
        refine g_ X hinX5 hW 0 rfl rfl 0 (by decide) 3 rfl rfl rfl dX5_ask_44 ?_
        refine lv_iload hx hb dX5_ask_47 (lv_at hl 1 rfl) ?_
        refine rF_ (As := [.int (nI j)]) (rest := []) (wc := [(vl, .inr (11, [.int mv, .ref av, .int (nI vs.length)])), (av, .inl (Y.2.1 2, cv, .inr (.inr (.inr (.inr (fun k => vs[k]?))))))]) (w9 := [(rb, .inr (5, [.ref vl, .ref kl, .ref co, .int ru, .int mo, .int (lk + nI kc), .int wn, .int (qu + 1), .int bu])), (kl, .inr (11, [.int mk, .ref ak, .int (nI ks.length)])), (co, .inl (Y.2.1 4, 6, .inr (.inr (.inr (.inr (fun l => some (ca l)))))))] ++ (KT Y ak ck ks ++ va_pl L f)) X 1 (kJx4a65c_get_915e3 l Dd Y vl av cv vs.length j mv (fun k => vs[k]?) (by omega) hC.1 (by omega)) gX5_ask_Jx4a65c_get_915e3_f30Jx4a65c rfl rfl rfl (by decide +kernel) (by decide +kernel) ⟨(Nat.le_of_ble_eq_true rfl), (Nat.le_of_ble_eq_true rfl)⟩ hW (pmq27 _ _ _ _ _ _) 0 11 rfl rfl rfl rfl hl.1 rfl (Nat.le_of_ble_eq_true rfl) dX5_ask_49 ⟨(Nat.le_of_ble_eq_true rfl), (Nat.le_of_ble_eq_true rfl)⟩ (fun rv wq H locs hp hW => ?_)
        obtain ⟨rfl, rfl⟩ := hp
        have hW : Wd Dd A s.heap ([(vl, .inr (11, [.int mv, .ref av, .int (nI vs.length)])), (av, .inl (Y.2.1 2, cv, .inr (.inr (.inr (.inr (fun k => vs[k]?)))))), (rb, .inr (5, [.ref vl, .ref kl, .ref co, .int ru, .int mo, .int (lk + nI kc), .int wn, .int (qu + 1), .int bu])), (kl, .inr (11, [.int mk, .ref ak, .int (nI ks.length)])), (co, .inl (Y.2.1 4, 6, .inr (.inr (.inr (.inr (fun l => some (ca l)))))))] ++ (KT Y ak ck ks ++ va_pl L f)) H locs := hW
        have hW : Wd Dd A s.heap ([(rb, .inr (5, [.ref vl, .ref kl, .ref co, .int ru, .int mo, .int (lk + nI kc), .int wn, .int (qu + 1), .int bu])), (vl, .inr (11, [.int mv, .ref av, .int (nI vs.length)])), (av, .inl (Y.2.1 2, cv, .inr (.inr (.inr (.inr (fun k => vs[k]?)))))), (kl, .inr (11, [.int mk, .ref ak, .int (nI ks.length)])), (co, .inl (Y.2.1 4, 6, .inr (.inr (.inr (.inr (fun l => some (ca l)))))))] ++ (KT Y ak ck ks ++ va_pl L f)) H locs := hW.permA (pmq28 _ _ _ _ _ _)
        refine W.eq (g2 := F0 m 54 ls [va_rf vs[j]?]) rfl ?_
        rw [hv0]
        refine W.eq (g2 := F0 m 54 ls [.ref v0]) rfl ?_
        refine vCa_ X hW (hvo.at hv0) (i := 4) rfl dX5_ask_54 ?_
        refine gVw_ X hinX7 hW (hvo.at hv0) dX5_ask_57 ?_
        refine lv_if_ne (tgt := 97) hx hb dX5_ask_60 (by decide) (fun cw => ?_) (fun cw => ?_)
        · have hw1 : g (52 + j) = 1 := (hw j v0 hv0).trans ((hvo.at hv0).2.2.resolve_left cw)
          exact c97 j _ _ _ ⟨Nat.le_refl _, hle⟩ (by rw [show b + 1 - j = (b - j) + 1 by omega, cl, if_pos (Wg_1 hw1), Nat.sub_self, show b + 1 - (j + 1) = b - j by omega]; rfl) (Or.inl rfl) hl hW
        · have hw1 : g (52 + j) = 0 := (hw j v0 hv0).trans cw
          have lpe : ∀ (d : Nat) (e : Nat) (H : Heap) (locs : List Loc) (ls : Array Slot), (he : j ≤ e ∧ e ≤ b) → (hz : ∀ k : Nat, j ≤ k → k ≤ e → g (52 + k) = 0) → (b < d + e) → lv_has ls 10 [(5, .int (nI e)), (4, .int (nI j)), (3, bv), (0, .ref rb), (1, .int (nI a)), (2, .int (nI b))] → Wd Dd A s.heap ([(rb, .inr (5, [.ref vl, .ref kl, .ref co, .int ru, .int mo, .int (lk + nI kc), .int wn, .int (qu + 1), .int bu])), (vl, .inr (11, [.int mv, .ref av, .int (nI vs.length)])), (av, .inl (Y.2.1 2, cv, .inr (.inr (.inr (.inr (fun k => vs[k]?)))))), (kl, .inr (11, [.int mk, .ref ak, .int (nI ks.length)])), (co, .inl (Y.2.1 4, 6, .inr (.inr (.inr (.inr (fun l => some (ca l)))))))] ++ (KT Y ak ck ks ++ va_pl L f)) H locs → W p₀ l e₀ rmX5_ask s m args below meth c₀ H locs (0) (0) Q (F0 m 63 ls []) := by
            intro d
            induction d with
            | zero => intro e H locs ls he hz hfu; exact absurd hfu (by omega)
            | succ d ihe =>
              intro e H locs ls he hz hfu hl hW
              have hcl0 : (e = b ∨ Wg g (e + 1) = true) → cl (Wg g) (b + 1 - j) j 0 = rl (e - j + 1) + cl (Wg g) (b + 1 - (e + 1)) (e + 1) 0 := fun q => by rw [show b + 1 - j = (e - j + 1) + (b + 1 - (e + 1)) by omega, cl_run _ _ _ _ (fun k q1 q2 => Wg_0 (hz k q1 (by omega))), show j + (e - j + 1) = e + 1 by omega, Nat.zero_add]; exact cl_w (q.imp (fun z => by omega) id)
              refine lv_iload hx hb dX5_ask_63 (lv_at hl 0 rfl) ?_
              refine lv_iload_n hx hb dX5_ask_65 rfl (lv_at hl 5 rfl) ?_
              refine lv_icmp_ge (tgt := 97) hx hb dX5_ask_66 (by decide) (fun ce => ?_) (fun ce => ?_)
              · have eb : e = b := by have := (nI_leI (by omega) (by omega)).mp ce; omega
                exact c97 e _ _ _ he (hcl0 (Or.inl eb)) (Or.inr hz) hl hW
              · have elt : e < b := Nat.lt_of_not_le (fun h => ce ((nI_leI (by omega) (by omega)).mpr h))
                obtain ⟨v1, hv1⟩ := vs_at (vs := vs) (p := e + 1) (by omega)
                refine lv_aload_n hx hb dX5_ask_69 rfl (lv_at hl 3 rfl) ?_
                refine g_ X hinX5 hW 0 rfl rfl 0 (by decide) 3 rfl rfl rfl dX5_ask_70 ?_
                refine lv_iload hx hb dX5_ask_73 (lv_at hl 0 rfl) ?_
                refine lv_iconst (v := 1) hx hb dX5_ask_75 (by decide) ?_
                refine lv_iadd hx hb dX5_ask_76 ?_
                rw [nI_1]
                refine rF_ (As := [.int (nI (e + 1))]) (rest := []) (wc := [(vl, .inr (11, [.int mv, .ref av, .int (nI vs.length)])), (av, .inl (Y.2.1 2, cv, .inr (.inr (.inr (.inr (fun k => vs[k]?))))))]) (w9 := [(rb, .inr (5, [.ref vl, .ref kl, .ref co, .int ru, .int mo, .int (lk + nI kc), .int wn, .int (qu + 1), .int bu])), (kl, .inr (11, [.int mk, .ref ak, .int (nI ks.length)])), (co, .inl (Y.2.1 4, 6, .inr (.inr (.inr (.inr (fun l => some (ca l)))))))] ++ (KT Y ak ck ks ++ va_pl L f)) X 1 (kJx4a65c_get_915e3 l Dd Y vl av cv vs.length (e + 1) mv (fun k => vs[k]?) (by omega) hC.1 (by omega)) gX5_ask_Jx4a65c_get_915e3_f30Jx4a65c rfl rfl rfl (by decide +kernel) (by decide +kernel) ⟨(Nat.le_of_ble_eq_true rfl), (Nat.le_of_ble_eq_true rfl)⟩ hW (pmq27 _ _ _ _ _ _) 0 11 rfl rfl rfl rfl hl.1 rfl (Nat.le_of_ble_eq_true rfl) dX5_ask_77 ⟨(Nat.le_of_ble_eq_true rfl), (Nat.le_of_ble_eq_true rfl)⟩ (fun rv wq H locs hp hW => ?_)
                obtain ⟨rfl, rfl⟩ := hp
                have hW : Wd Dd A s.heap ([(vl, .inr (11, [.int mv, .ref av, .int (nI vs.length)])), (av, .inl (Y.2.1 2, cv, .inr (.inr (.inr (.inr (fun k => vs[k]?)))))), (rb, .inr (5, [.ref vl, .ref kl, .ref co, .int ru, .int mo, .int (lk + nI kc), .int wn, .int (qu + 1), .int bu])), (kl, .inr (11, [.int mk, .ref ak, .int (nI ks.length)])), (co, .inl (Y.2.1 4, 6, .inr (.inr (.inr (.inr (fun l => some (ca l)))))))] ++ (KT Y ak ck ks ++ va_pl L f)) H locs := hW
                have hW : Wd Dd A s.heap ([(rb, .inr (5, [.ref vl, .ref kl, .ref co, .int ru, .int mo, .int (lk + nI kc), .int wn, .int (qu + 1), .int bu])), (vl, .inr (11, [.int mv, .ref av, .int (nI vs.length)])), (av, .inl (Y.2.1 2, cv, .inr (.inr (.inr (.inr (fun k => vs[k]?)))))), (kl, .inr (11, [.int mk, .ref ak, .int (nI ks.length)])), (co, .inl (Y.2.1 4, 6, .inr (.inr (.inr (.inr (fun l => some (ca l)))))))] ++ (KT Y ak ck ks ++ va_pl L f)) H locs := hW.permA (pmq28 _ _ _ _ _ _)
                refine W.eq (g2 := F0 m 82 ls [va_rf vs[(e + 1)]?]) rfl ?_
                rw [hv1]
                refine W.eq (g2 := F0 m 82 ls [.ref v1]) rfl ?_
                refine vCa_ X hW (hvo.at hv1) (i := 4) rfl dX5_ask_82 ?_
                refine gVw_ X hinX7 hW (hvo.at hv1) dX5_ask_85 ?_
                refine lv_if_ne (tgt := 97) hx hb dX5_ask_88 (by decide) (fun cf => ?_) (fun cf => ?_)
                · exact c97 e _ _ _ he (hcl0 (Or.inr (Wg_1 ((hw (e + 1) v1 hv1).trans ((hvo.at hv1).2.2.resolve_left cf))))) (Or.inr hz) hl hW
                · refine lv_iinc (v := (nI e) + 1) (lv' := [(5, .int ((nI e) + 1)), (4, .int (nI j)), (3, bv), (0, .ref rb), (1, .int (nI a)), (2, .int (nI b))]) hx hb dX5_ask_91 hl (k := 0) rfl rfl (by decide) rfl (fun ls hl => ?_)
                  rw [nI_1] at hl
                  refine lv_goto (tgt := 63) hx hb dX5_ask_94 (by decide) ?_
                  exact ihe (e + 1) _ _ _ ⟨by omega, by omega⟩ (fun k q1 q2 => by rcases Nat.lt_or_ge k (e + 1) with q | q; exact hz k q1 (by omega); rw [show k = e + 1 by omega]; exact (hw (e + 1) v1 hv1).trans cf) (by omega) hl hW
          exact lpe (b + 1) j _ _ _ ⟨Nat.le_refl _, hle⟩ (fun k q1 q2 => by rw [show k = j by omega]; exact hw1) (by omega) hl hW
  exact lpo (b + 2) a 0 .null _ _ _ ⟨Nat.le_refl _, by omega⟩ (Nat.zero_add _) (Or.inl ⟨rfl, rfl⟩) (by omega) hl (by rw [show lk + nI 0 = lk from Int32.add_zero lk]; exact hW)
set_option maxRecDepth 100000 in
set_option maxHeartbeats 4000000 in
theorem kAskZ (l : Launch) (Dd : va_G) (Y : yT) (rb vl kl co av cv ak ck : Nat) (ca : Nat → Nat) (vs ks L : List Nat) (f : Nat → va_E) (ru mo lk wn qu bu mv mk : Int32) (a b : Nat) (g : Nat → Int32) (hg : NG vs f g) (hw : NW vs f g) (hC : vs.length ≤ cv ∧ cv ≤ 600) (hvo : VO L vs f) (hO : CO Y L ca f) (hH : HCo vs ca f g) (h3 : vs.length ≤ 40) (hab : a ≤ b) (hbn : b < vs.length) (hru : ru = 0) (hz : wc g vs.length = 0) : MR l yX5_ask wsX5_ask rmX5_ask Dd Y [.ref rb, .int (nI a), .int (nI b)] ([(rb, .inr (5, [.ref vl, .ref kl, .ref co, .int ru, .int mo, .int lk, .int wn, .int qu, .int bu])), (vl, .inr (11, [.int mv, .ref av, .int (nI vs.length)])), (av, .inl (Y.2.1 2, cv, .inr (.inr (.inr (.inr (fun k => vs[k]?)))))), (kl, .inr (11, [.int mk, .ref ak, .int (nI ks.length)])), (co, .inl (Y.2.1 4, 6, .inr (.inr (.inr (.inr (fun l => some (ca l)))))))] ++ (KT Y ak ck ks ++ va_pl L f)) (fun rv w => rv = some (.int (nI (lm g a (b - a)))) ∧ w = [(rb, .inr (5, [.ref vl, .ref kl, .ref co, .int ru, .int mo, .int (lk + nI (cl (Wg g) (b + 1 - a) a 0)), .int wn, .int (qu + 1), .int bu])), (vl, .inr (11, [.int mv, .ref av, .int (nI vs.length)])), (av, .inl (Y.2.1 2, cv, .inr (.inr (.inr (.inr (fun k => vs[k]?)))))), (kl, .inr (11, [.int mk, .ref ak, .int (nI ks.length)])), (co, .inl (Y.2.1 4, 6, .inr (.inr (.inr (.inr (fun l => some (ca l)))))))] ++ (KT Y ak ck ks ++ va_pl L f)) 2 8 := by
  refine MRk (cc := cX5_ask) (maxL := 10) (ret := (some .int)) (by decide) rfl (Nat.le_of_ble_eq_true rfl) (fun {p₀ e₀ s m args below meth c₀ A} ls Q X hin hW hl hI hV hA => ?_)
  have hx := X.x
  have hb := X.b
  have hl : lv_has ls 10 [(0, .ref rb), (1, .int (nI a)), (2, .int (nI b))] := hl
  have hinX5 : ∀ w ∈ wsX50, w ∈ wsX5_ask := fun w h => List.mem_cons_of_mem _ (List.mem_append_left _ (List.mem_append_left _ (List.mem_append_left _ (List.mem_append_right _ h))))
  have hinX7 : ∀ w ∈ wsX70, w ∈ wsX5_ask := fun w h => List.mem_cons_of_mem _ (List.mem_append_left _ (List.mem_append_left _ (List.mem_append_right _ h)))
  have hz : wc g vs.length = 0 := hz
  refine lv_aload_n hx hb dX5_ask_0 rfl (lv_at hl 0 rfl) ?_
  refine g_ X hinX5 hW 0 rfl rfl 3 (by decide) 1 rfl rfl rfl dX5_ask_1 ?_
  refine lv_if_ne (tgt := 18) hx hb dX5_ask_4 (by decide) (fun h => absurd h (fun h => h hru)) (fun _ => ?_)
  refine lv_aload_n hx hb dX5_ask_7 rfl (lv_at hl 0 rfl) ?_
  refine rV_ (As := []) (rest := []) (wc := [(rb, .inr (5, [.ref vl, .ref kl, .ref co, .int ru, .int mo, .int lk, .int wn, .int qu, .int bu])), (vl, .inr (11, [.int mv, .ref av, .int (nI vs.length)])), (av, .inl (Y.2.1 2, cv, .inr (.inr (.inr (.inr (fun k => vs[k]?)))))), (kl, .inr (11, [.int mk, .ref ak, .int (nI ks.length)])), (co, .inl (Y.2.1 4, 6, .inr (.inr (.inr (.inr (fun l => some (ca l)))))))] ++ (KT Y ak ck ks ++ va_pl L f)) (w9 := []) X (kX5_waiting l Dd Y rb vl kl co av cv ak ck ca vs ks L f ru mo lk wn qu bu mv mk g hw hC hvo) (cwV 0 X.1.2.2.2.2 gX5_ask_X5_waiting rfl rfl rfl (by decide +kernel) ⟨(Nat.le_of_ble_eq_true rfl), (Nat.le_of_ble_eq_true rfl)⟩) hW (by rw [List.append_nil]) 0 5 rfl rfl rfl rfl hl.1 rfl (Nat.le_of_ble_eq_true rfl) dX5_ask_8 ⟨(Nat.le_of_ble_eq_true rfl), (Nat.le_of_ble_eq_true rfl)⟩ (fun rv wq H locs hp hW => ?_)
  obtain ⟨rfl, rfl⟩ := hp
  have hW : Wd Dd A s.heap ([(rb, .inr (5, [.ref vl, .ref kl, .ref co, .int ru, .int mo, .int lk, .int wn, .int qu, .int bu])), (vl, .inr (11, [.int mv, .ref av, .int (nI vs.length)])), (av, .inl (Y.2.1 2, cv, .inr (.inr (.inr (.inr (fun k => vs[k]?)))))), (kl, .inr (11, [.int mk, .ref ak, .int (nI ks.length)])), (co, .inl (Y.2.1 4, 6, .inr (.inr (.inr (.inr (fun l => some (ca l)))))))] ++ (KT Y ak ck ks ++ va_pl L f)) H locs := by rw [List.append_nil] at hW; exact hW
  refine W.eq (g2 := F0 m 11 ls [.int (nI (wc g vs.length))]) rfl ?_
  refine lv_if_le (tgt := 18) hx hb dX5_ask_11 (by decide) (fun _ => ?_) (fun h => absurd (show nI (wc g vs.length) ≤ 0 from by rw [hz]; exact Int32.le_refl 0) h)
  refine lv_aload_n hx hb dX5_ask_18 rfl (lv_at hl 0 rfl) ?_
  refine lv_dup hx hb dX5_ask_19 rfl ?_
  refine g_ X hinX5 hW 0 rfl rfl 7 (by decide) 2 rfl rfl rfl dX5_ask_20 ?_
  refine lv_iconst (v := 1) hx hb dX5_ask_23 (by decide) ?_
  refine lv_iadd hx hb dX5_ask_24 ?_
  refine p_ (ty := .int) X hinX5 tyX5 tyX5_ok nmX5 hW 0 rfl rfl 7 (by decide) 2 rfl rfl rfl (by decide +kernel) rfl rfl (Nat.le_of_ble_eq_true rfl) dX5_ask_25 (ws' := [(rb, .inr (5, [.ref vl, .ref kl, .ref co, .int ru, .int mo, .int lk, .int wn, .int (qu + 1), .int bu])), (vl, .inr (11, [.int mv, .ref av, .int (nI vs.length)])), (av, .inl (Y.2.1 2, cv, .inr (.inr (.inr (.inr (fun k => vs[k]?)))))), (kl, .inr (11, [.int mk, .ref ak, .int (nI ks.length)])), (co, .inl (Y.2.1 4, 6, .inr (.inr (.inr (.inr (fun l => some (ca l)))))))] ++ (KT Y ak ck ks ++ va_pl L f)) rfl (fun H locs hW => ?_)
  refine lv_null hx hb dX5_ask_28 ?_
  refine lv_astore_nN (lv' := [(3, .null), (0, .ref rb), (1, .int (nI a)), (2, .int (nI b))]) hx hb dX5_ask_29 rfl hl (by decide) rfl (fun ls hl => ?_)
  refine lv_iload_n hx hb dX5_ask_30 rfl (lv_at hl 2 rfl) ?_
  refine lv_istore (lv' := [(4, .int (nI a)), (3, .null), (0, .ref rb), (1, .int (nI a)), (2, .int (nI b))]) hx hb dX5_ask_31 hl (by decide) rfl (fun ls hl => ?_)
  have lpo : ∀ (d : Nat) (j : Nat) (kc : Nat) (bv : Value) (H : Heap) (locs : List Loc) (ls : Array Slot), (hj : a ≤ j ∧ j ≤ b + 1) → (hkc : kc + cl (Wg g) (b + 1 - j) j 0 = cl (Wg g) (b + 1 - a) a 0) → (hbv : (j = a ∧ bv = .null) ∨ (a < j ∧ ∃ v : Nat, bv = .ref v ∧ vs[lm g a (j - 1 - a)]? = some v)) → (b + 1 < d + j) → lv_has ls 10 [(4, .int (nI j)), (3, bv), (0, .ref rb), (1, .int (nI a)), (2, .int (nI b))] → Wd Dd A s.heap ([(rb, .inr (5, [.ref vl, .ref kl, .ref co, .int ru, .int mo, .int (lk + nI kc), .int wn, .int (qu + 1), .int bu])), (vl, .inr (11, [.int mv, .ref av, .int (nI vs.length)])), (av, .inl (Y.2.1 2, cv, .inr (.inr (.inr (.inr (fun k => vs[k]?)))))), (kl, .inr (11, [.int mk, .ref ak, .int (nI ks.length)])), (co, .inl (Y.2.1 4, 6, .inr (.inr (.inr (.inr (fun l => some (ca l)))))))] ++ (KT Y ak ck ks ++ va_pl L f)) H locs → W p₀ l e₀ rmX5_ask s m args below meth c₀ H locs (1) (4) Q (F0 m 33 ls []) := by
    intro d
    induction d with
    | zero => intro j kc bv H locs ls hj hkc hbv hfu; exact absurd hfu (by omega)
    | succ d ih =>
      intro j kc bv H locs ls hj hkc hbv hfu hl hW
      refine lv_iload hx hb dX5_ask_33 (lv_at hl 0 rfl) ?_
      refine lv_iload_n hx hb dX5_ask_35 rfl (lv_at hl 4 rfl) ?_
      refine lv_icmp_gt (tgt := 271) hx hb dX5_ask_36 (by decide) (fun cq => ?_) (fun cq => ?_)
      · have e : j = b + 1 := by have := (nI_ltI (by omega) (by omega)).mp cq; omega
        obtain ⟨q0, -⟩ | ⟨-, v, rfl, hv⟩ := hbv
        · omega
        refine lv_aload_n hx hb dX5_ask_271 rfl (lv_at hl 2 rfl) ?_
        refine lv_aload_n hx hb dX5_ask_272 rfl (lv_at hl 1 rfl) ?_
        refine rV_ (As := [.ref v]) (rest := []) (wc := [(rb, .inr (5, [.ref vl, .ref kl, .ref co, .int ru, .int mo, .int (lk + nI kc), .int wn, .int (qu + 1), .int bu])), (vl, .inr (11, [.int mv, .ref av, .int (nI vs.length)])), (av, .inl (Y.2.1 2, cv, .inr (.inr (.inr (.inr (fun k => vs[k]?)))))), (kl, .inr (11, [.int mk, .ref ak, .int (nI ks.length)])), (co, .inl (Y.2.1 4, 6, .inr (.inr (.inr (.inr (fun l => some (ca l)))))))] ++ (KT Y ak ck ks ++ va_pl L f)) (w9 := []) X (kX5_placeOf l Dd Y rb vl kl co av cv ak ck ca vs ks L f ru mo (lk + nI kc) wn (qu + 1) bu mv mk v (lm g a (b - a)) hC hvo.1 (by rw [← hv, e, Nat.add_sub_cancel])) (cwV 1 X.1.2.2.2.2 gX5_ask_X5_placeOf rfl rfl rfl (by decide +kernel) ⟨(Nat.le_of_ble_eq_true rfl), (Nat.le_of_ble_eq_true rfl)⟩) hW (by rw [List.append_nil]) 0 5 rfl rfl rfl rfl hl.1 rfl (Nat.le_of_ble_eq_true rfl) dX5_ask_273 ⟨(Nat.le_of_ble_eq_true rfl), (Nat.le_of_ble_eq_true rfl)⟩ (fun rv wq H locs hp hW => ?_)
        obtain ⟨rfl, rfl⟩ := hp
        have hW : Wd Dd A s.heap ([(rb, .inr (5, [.ref vl, .ref kl, .ref co, .int ru, .int mo, .int (lk + nI kc), .int wn, .int (qu + 1), .int bu])), (vl, .inr (11, [.int mv, .ref av, .int (nI vs.length)])), (av, .inl (Y.2.1 2, cv, .inr (.inr (.inr (.inr (fun k => vs[k]?)))))), (kl, .inr (11, [.int mk, .ref ak, .int (nI ks.length)])), (co, .inl (Y.2.1 4, 6, .inr (.inr (.inr (.inr (fun l => some (ca l)))))))] ++ (KT Y ak ck ks ++ va_pl L f)) H locs := by rw [List.append_nil] at hW; exact hW
        refine W.eq (g2 := F0 m 276 ls [.int (nI (lm g a (b - a)))]) rfl ?_
        have ek : kc = cl (Wg g) (b + 1 - a) a 0 := by rw [← hkc, e, Nat.sub_self]; rfl
        exact hI _ _ _ _ _ _ _ _ _ ⟨rfl, by rw [ek]⟩ rfl rfl (Nat.le_of_ble_eq_true rfl) (Nat.le_of_ble_eq_true rfl) hW dX5_ask_276
      · have hle : j ≤ b := Nat.le_of_not_lt (fun h => cq ((nI_ltI (by omega) (by omega)).mpr h))
        have hNW : ∀ p v : Nat, vs[p]? = some v → g (52 + p) = wtA (f v) := hw
        have c97 : ∀ (e : Nat) (H : Heap) (locs : List Loc) (ls : Array Slot), (he : j ≤ e ∧ e ≤ b) → (hcl : cl (Wg g) (b + 1 - j) j 0 = rl (e - j + 1) + cl (Wg g) (b + 1 - (e + 1)) (e + 1) 0) → (hz0 : e = j ∨ ∀ k : Nat, j ≤ k → k ≤ e → g (52 + k) = 0) → lv_has ls 10 [(5, .int (nI e)), (4, .int (nI j)), (3, bv), (0, .ref rb), (1, .int (nI a)), (2, .int (nI b))] → Wd Dd A s.heap ([(rb, .inr (5, [.ref vl, .ref kl, .ref co, .int ru, .int mo, .int (lk + nI kc), .int wn, .int (qu + 1), .int bu])), (vl, .inr (11, [.int mv, .ref av, .int (nI vs.length)])), (av, .inl (Y.2.1 2, cv, .inr (.inr (.inr (.inr (fun k => vs[k]?)))))), (kl, .inr (11, [.int mk, .ref ak, .int (nI ks.length)])), (co, .inl (Y.2.1 4, 6, .inr (.inr (.inr (.inr (fun l => some (ca l)))))))] ++ (KT Y ak ck ks ++ va_pl L f)) H locs → W p₀ l e₀ rmX5_ask s m args below meth c₀ H locs (1) (4) Q (F0 m 97 ls []) := by
          intro e H locs ls he hcl hz0 hl hW
          refine lv_iconst (v := 0) hx hb dX5_ask_97 (by decide) ?_
          refine lv_istore (lv' := [(6, .int 0), (5, .int (nI e)), (4, .int (nI j)), (3, bv), (0, .ref rb), (1, .int (nI a)), (2, .int (nI b))]) hx hb dX5_ask_98 hl (by decide) rfl (fun ls hl => ?_)
          refine lv_iconst (v := 1) hx hb dX5_ask_100 (by decide) ?_
          refine lv_istore (lv' := [(7, .int 1), (6, .int 0), (5, .int (nI e)), (4, .int (nI j)), (3, bv), (0, .ref rb), (1, .int (nI a)), (2, .int (nI b))]) hx hb dX5_ask_101 hl (by decide) rfl (fun ls hl => ?_)
          have lpt : ∀ (d : Nat) (t : Nat) (H : Heap) (locs : List Loc) (ls : Array Slot), (ht : 2 ^ t ≤ e - j + 1 ∧ t ≤ 5) → (6 < d + t) → lv_has ls 10 [(7, .int (nI (2 ^ t))), (6, .int (nI t)), (5, .int (nI e)), (4, .int (nI j)), (3, bv), (0, .ref rb), (1, .int (nI a)), (2, .int (nI b))] → Wd Dd A s.heap ([(rb, .inr (5, [.ref vl, .ref kl, .ref co, .int ru, .int mo, .int (lk + nI kc), .int wn, .int (qu + 1), .int bu])), (vl, .inr (11, [.int mv, .ref av, .int (nI vs.length)])), (av, .inl (Y.2.1 2, cv, .inr (.inr (.inr (.inr (fun k => vs[k]?)))))), (kl, .inr (11, [.int mk, .ref ak, .int (nI ks.length)])), (co, .inl (Y.2.1 4, 6, .inr (.inr (.inr (.inr (fun l => some (ca l)))))))] ++ (KT Y ak ck ks ++ va_pl L f)) H locs → W p₀ l e₀ rmX5_ask s m args below meth c₀ H locs (1) (4) Q (F0 m 103 ls []) := by
            intro d
            induction d with
            | zero => intro t H locs ls ht hfu; exact absurd hfu (by omega)
            | succ d iht =>
              intro t H locs ls ht hfu hl hW
              have hp1 : 2 ^ (t + 1) = 2 * 2 ^ t := by rw [Nat.pow_succ]; omega
              have hp2 : 0 < 2 ^ t := Nat.two_pow_pos t
              refine lv_iconst (v := 2) hx hb dX5_ask_103 (by decide) ?_
              refine lv_iload hx hb dX5_ask_104 (lv_at hl 0 rfl) ?_
              refine lv_imul hx hb dX5_ask_106 ?_
              rw [nI_dbl2]
              refine lv_iload hx hb dX5_ask_107 (lv_at hl 2 rfl) ?_
              refine lv_iload hx hb dX5_ask_109 (lv_at hl 3 rfl) ?_
              refine lv_isub hx hb dX5_ask_111 ?_
              refine lv_iconst (v := 1) hx hb dX5_ask_112 (by decide) ?_
              refine lv_iadd hx hb dX5_ask_113 ?_
              rw [show nI e - nI j + 1 = nI (e - j + 1) from by rw [pk_sub he.1, nI_1]]
              refine lv_icmp_gt (tgt := 129) hx hb dX5_ask_114 (by decide) (fun ct => ?_) (fun ct => ?_)
              · have hr2 : e - j + 1 < 2 * 2 ^ t := (nI_ltI (by omega) (by omega)).mp ct
                have hrl : rl (e - j + 1) = if e - j + 1 = 2 ^ t then 1 else 2 := rl_e ht.1 (by omega) (by omega) (by omega)
                have c247 : ∀ (o1 : Nat) (o2 : Nat) (c2 : Nat) (v3 : Nat) (c3 : Nat) (H : Heap) (locs : List Loc) (ls : Array Slot), (h2 : vs[c2]? = some o2) → (i2 : isL g (e + 1 - 2 ^ t) e c2) → (h3_ : vs[c3]? = some v3) → (i3 : isL g a (j + 2 ^ t - 1) c3) → lv_has ls 10 [(9, .ref o2), (8, .ref o1), (7, .int (nI (2 ^ t))), (6, .int (nI t)), (5, .int (nI e)), (4, .int (nI j)), (3, .ref v3), (0, .ref rb), (1, .int (nI a)), (2, .int (nI b))] → Wd Dd A s.heap ([(rb, .inr (5, [.ref vl, .ref kl, .ref co, .int ru, .int mo, .int (lk + nI (kc + rl (e - j + 1))), .int wn, .int (qu + 1), .int bu])), (vl, .inr (11, [.int mv, .ref av, .int (nI vs.length)])), (av, .inl (Y.2.1 2, cv, .inr (.inr (.inr (.inr (fun k => vs[k]?)))))), (kl, .inr (11, [.int mk, .ref ak, .int (nI ks.length)])), (co, .inl (Y.2.1 4, 6, .inr (.inr (.inr (.inr (fun l => some (ca l)))))))] ++ (KT Y ak ck ks ++ va_pl L f)) H locs → W p₀ l e₀ rmX5_ask s m args below meth c₀ H locs (1) (4) Q (F0 m 247 ls []) := by
                  intro o1 o2 c2 v3 c3 H locs ls h2 i2 h3_ i3 hl hW
                  refine lv_aload hx hb dX5_ask_247 (lv_at hl 0 rfl) ?_
                  refine gVn_ X hinX7 hW (hvo.at h2) dX5_ask_249 ?_
                  refine lv_aload_n hx hb dX5_ask_252 rfl (lv_at hl 6 rfl) ?_
                  refine gVn_ X hinX7 hW (hvo.at h3_) dX5_ask_253 ?_
                  refine lv_icmp_ge (tgt := 262) hx hb dX5_ask_256 (by decide) (fun cb => ?_) (fun cb => ?_)
                  · refine lv_iload hx hb dX5_ask_262 (lv_at hl 4 rfl) ?_
                    refine lv_iconst (v := 1) hx hb dX5_ask_264 (by decide) ?_
                    refine lv_iadd hx hb dX5_ask_265 ?_
                    rw [nI_1]
                    refine lv_istore (lv' := [(4, .int (nI (e + 1))), (9, .ref o2), (8, .ref o1), (7, .int (nI (2 ^ t))), (6, .int (nI t)), (5, .int (nI e)), (3, .ref v3), (0, .ref rb), (1, .int (nI a)), (2, .int (nI b))]) hx hb dX5_ask_266 hl (by decide) rfl (fun ls hl => ?_)
                    refine lv_goto (tgt := 33) hx hb dX5_ask_268 (by decide) ?_
                    have hl : lv_has ls 10 [(4, .int (nI (e + 1))), (3, .ref v3), (0, .ref rb), (1, .int (nI a)), (2, .int (nI b))] := lv_sub hl [0, 6, 7, 8, 9] rfl
                    exact ih (e + 1) (kc + rl (e - j + 1)) (.ref v3) _ _ _ ⟨by omega, by omega⟩ (by rw [← hkc, hcl, Nat.add_assoc]) (Or.inr ⟨by omega, v3, rfl, by rw [Nat.add_sub_cancel, ← lm_of (isL_le i3 i2 (by omega) (by omega) (by omega) (by rw [hg _ _ h3_, hg _ _ h2]; exact cb)) (by omega)]; exact h3_⟩) (by omega) hl hW
                  · refine lv_aload hx hb dX5_ask_259 (lv_at hl 0 rfl) ?_
                    refine lv_astore_n (lv' := [(3, .ref o2), (9, .ref o2), (8, .ref o1), (7, .int (nI (2 ^ t))), (6, .int (nI t)), (5, .int (nI e)), (4, .int (nI j)), (0, .ref rb), (1, .int (nI a)), (2, .int (nI b))]) hx hb dX5_ask_261 rfl hl (by decide) rfl (fun ls hl => ?_)
                    refine lv_iload hx hb dX5_ask_262 (lv_at hl 5 rfl) ?_
                    refine lv_iconst (v := 1) hx hb dX5_ask_264 (by decide) ?_
                    refine lv_iadd hx hb dX5_ask_265 ?_
                    rw [nI_1]
                    refine lv_istore (lv' := [(4, .int (nI (e + 1))), (3, .ref o2), (9, .ref o2), (8, .ref o1), (7, .int (nI (2 ^ t))), (6, .int (nI t)), (5, .int (nI e)), (0, .ref rb), (1, .int (nI a)), (2, .int (nI b))]) hx hb dX5_ask_266 hl (by decide) rfl (fun ls hl => ?_)
                    refine lv_goto (tgt := 33) hx hb dX5_ask_268 (by decide) ?_
                    have hl : lv_has ls 10 [(4, .int (nI (e + 1))), (3, .ref o2), (0, .ref rb), (1, .int (nI a)), (2, .int (nI b))] := lv_sub hl [0, 1, 7, 8, 9] rfl
                    exact ih (e + 1) (kc + rl (e - j + 1)) (.ref o2) _ _ _ ⟨by omega, by omega⟩ (by rw [← hkc, hcl, Nat.add_assoc]) (Or.inr ⟨by omega, o2, rfl, by rw [Nat.add_sub_cancel, ← lm_of (isL_gt i3 i2 (by omega) (by omega) (by omega) (by rw [hg _ _ h3_, hg _ _ h2]; exact cb)) (by omega)]; exact h2⟩) (by omega) hl hW
                have c228 : ∀ (o1 : Nat) (o2 : Nat) (c1 : Nat) (c2 : Nat) (H : Heap) (locs : List Loc) (ls : Array Slot), (h1_ : vs[c1]? = some o1) → (i1 : isL g j (j + 2 ^ t - 1) c1) → (h2 : vs[c2]? = some o2) → (i2 : isL g (e + 1 - 2 ^ t) e c2) → lv_has ls 10 [(9, .ref o2), (8, .ref o1), (7, .int (nI (2 ^ t))), (6, .int (nI t)), (5, .int (nI e)), (4, .int (nI j)), (3, bv), (0, .ref rb), (1, .int (nI a)), (2, .int (nI b))] → Wd Dd A s.heap ([(rb, .inr (5, [.ref vl, .ref kl, .ref co, .int ru, .int mo, .int (lk + nI (kc + rl (e - j + 1))), .int wn, .int (qu + 1), .int bu])), (vl, .inr (11, [.int mv, .ref av, .int (nI vs.length)])), (av, .inl (Y.2.1 2, cv, .inr (.inr (.inr (.inr (fun k => vs[k]?)))))), (kl, .inr (11, [.int mk, .ref ak, .int (nI ks.length)])), (co, .inl (Y.2.1 4, 6, .inr (.inr (.inr (.inr (fun l => some (ca l)))))))] ++ (KT Y ak ck ks ++ va_pl L f)) H locs → W p₀ l e₀ rmX5_ask s m args below meth c₀ H locs (1) (4) Q (F0 m 228 ls []) := by
                  intro o1 o2 c1 c2 H locs ls h1_ i1 h2 i2 hl hW
                  obtain ⟨ej, rfl⟩ | ⟨hja, vb, rfl, hvb⟩ := hbv
                  · refine lv_aload_nN hx hb dX5_ask_228 rfl (lv_at hl 6 rfl) ?_
                    refine lv_ifnullN (tgt := 244) hx hb dX5_ask_229 (by decide) ?_
                    refine lv_aload hx hb dX5_ask_244 (lv_at hl 1 rfl) ?_
                    refine lv_astore_n (lv' := [(3, .ref o1), (9, .ref o2), (8, .ref o1), (7, .int (nI (2 ^ t))), (6, .int (nI t)), (5, .int (nI e)), (4, .int (nI j)), (0, .ref rb), (1, .int (nI a)), (2, .int (nI b))]) hx hb dX5_ask_246 rfl hl (by decide) rfl (fun ls hl => ?_)
                    have hl : lv_has ls 10 [(9, .ref o2), (8, .ref o1), (7, .int (nI (2 ^ t))), (6, .int (nI t)), (5, .int (nI e)), (4, .int (nI j)), (3, .ref o1), (0, .ref rb), (1, .int (nI a)), (2, .int (nI b))] := lv_sub hl [1, 2, 3, 4, 5, 6, 0, 7, 8, 9] rfl
                    exact c247 o1 o2 c2 o1 c1 _ _ _ h2 i2 h1_ (ej ▸ i1) hl hW
                  · refine lv_aload_n hx hb dX5_ask_228 rfl (lv_at hl 6 rfl) ?_
                    refine lv_ifnull hx hb dX5_ask_229 ?_
                    refine lv_aload hx hb dX5_ask_232 (lv_at hl 1 rfl) ?_
                    refine gVn_ X hinX7 hW (hvo.at h1_) dX5_ask_234 ?_
                    refine lv_aload_n hx hb dX5_ask_237 rfl (lv_at hl 6 rfl) ?_
                    refine gVn_ X hinX7 hW (hvo.at hvb) dX5_ask_238 ?_
                    have ib : isL g a (j - 1) (lm g a (j - 1 - a)) := lm_to (by omega)
                    refine lv_icmp_ge (tgt := 247) hx hb dX5_ask_241 (by decide) (fun cb => ?_) (fun cb => ?_)
                    · exact c247 o1 o2 c2 vb _ _ _ _ h2 i2 hvb (isL_le ib i1 (by omega) (by omega) (by omega) (by rw [hg _ _ hvb, hg _ _ h1_]; exact cb)) hl hW
                    · refine lv_aload hx hb dX5_ask_244 (lv_at hl 1 rfl) ?_
                      refine lv_astore_n (lv' := [(3, .ref o1), (9, .ref o2), (8, .ref o1), (7, .int (nI (2 ^ t))), (6, .int (nI t)), (5, .int (nI e)), (4, .int (nI j)), (0, .ref rb), (1, .int (nI a)), (2, .int (nI b))]) hx hb dX5_ask_246 rfl hl (by decide) rfl (fun ls hl => ?_)
                      have hl : lv_has ls 10 [(9, .ref o2), (8, .ref o1), (7, .int (nI (2 ^ t))), (6, .int (nI t)), (5, .int (nI e)), (4, .int (nI j)), (3, .ref o1), (0, .ref rb), (1, .int (nI a)), (2, .int (nI b))] := lv_sub hl [1, 2, 3, 4, 5, 6, 0, 7, 8, 9] rfl
                      exact c247 o1 o2 c2 o1 c1 _ _ _ h2 i2 h1_ (isL_gt ib i1 (by omega) (by omega) (by omega) (by rw [hg _ _ hvb, hg _ _ h1_]; exact cb)) hl hW
                have c200 : ∀ (o1 : Nat) (o2 : Nat) (c1 : Nat) (c2 : Nat) (H : Heap) (locs : List Loc) (ls : Array Slot), (h1_ : vs[c1]? = some o1) → (i1 : isL g j (j + 2 ^ t - 1) c1) → (h2 : vs[c2]? = some o2) → (i2 : isL g (e + 1 - 2 ^ t) e c2) → lv_has ls 10 [(8, .ref o1), (7, .int (nI (2 ^ t))), (6, .int (nI t)), (5, .int (nI e)), (4, .int (nI j)), (3, bv), (0, .ref rb), (1, .int (nI a)), (2, .int (nI b))] → Wd Dd A s.heap ([(rb, .inr (5, [.ref vl, .ref kl, .ref co, .int ru, .int mo, .int (lk + nI kc), .int wn, .int (qu + 1), .int bu])), (vl, .inr (11, [.int mv, .ref av, .int (nI vs.length)])), (av, .inl (Y.2.1 2, cv, .inr (.inr (.inr (.inr (fun k => vs[k]?)))))), (kl, .inr (11, [.int mk, .ref ak, .int (nI ks.length)])), (co, .inl (Y.2.1 4, 6, .inr (.inr (.inr (.inr (fun l => some (ca l)))))))] ++ (KT Y ak ck ks ++ va_pl L f)) H locs → W p₀ l e₀ rmX5_ask s m args below meth c₀ H locs (1) (4) Q (F0 m 200 ls [.ref o2]) := by
                  intro o1 o2 c1 c2 H locs ls h1_ i1 h2 i2 hl hW
                  refine lv_astore (lv' := [(9, .ref o2), (8, .ref o1), (7, .int (nI (2 ^ t))), (6, .int (nI t)), (5, .int (nI e)), (4, .int (nI j)), (3, bv), (0, .ref rb), (1, .int (nI a)), (2, .int (nI b))]) hx hb dX5_ask_200 hl (by decide) rfl (fun ls hl => ?_)
                  refine lv_aload_n hx hb dX5_ask_202 rfl (lv_at hl 7 rfl) ?_
                  refine lv_dup hx hb dX5_ask_203 rfl ?_
                  refine g_ X hinX5 hW 0 rfl rfl 5 (by decide) 6 rfl rfl rfl dX5_ask_204 ?_
                  refine lv_iload hx hb dX5_ask_207 (lv_at hl 2 rfl) ?_
                  refine lv_iload hx hb dX5_ask_209 (lv_at hl 4 rfl) ?_
                  refine lv_iload hx hb dX5_ask_211 (lv_at hl 5 rfl) ?_
                  refine lv_isub hx hb dX5_ask_213 ?_
                  refine lv_iconst (v := 1) hx hb dX5_ask_214 (by decide) ?_
                  refine lv_iadd hx hb dX5_ask_215 ?_
                  rw [show nI e - nI j + 1 = nI (e - j + 1) from by rw [pk_sub he.1, nI_1]]
                  refine lv_icmp_ne (tgt := 223) hx hb dX5_ask_216 (by decide) (fun ce => ?_) (fun ce => ?_)
                  · refine lv_iconst (v := 2) hx hb dX5_ask_223 (by decide) ?_
                    refine lv_iadd hx hb dX5_ask_224 ?_
                    rw [wn_2]
                    refine p_ (ty := .int) X hinX5 tyX5 tyX5_ok nmX5 hW 0 rfl rfl 5 (by decide) 6 rfl rfl rfl (by decide +kernel) rfl rfl (Nat.le_of_ble_eq_true rfl) dX5_ask_225 (ws' := [(rb, .inr (5, [.ref vl, .ref kl, .ref co, .int ru, .int mo, .int (lk + nI (kc + 2)), .int wn, .int (qu + 1), .int bu])), (vl, .inr (11, [.int mv, .ref av, .int (nI vs.length)])), (av, .inl (Y.2.1 2, cv, .inr (.inr (.inr (.inr (fun k => vs[k]?)))))), (kl, .inr (11, [.int mk, .ref ak, .int (nI ks.length)])), (co, .inl (Y.2.1 4, 6, .inr (.inr (.inr (.inr (fun l => some (ca l)))))))] ++ (KT Y ak ck ks ++ va_pl L f)) rfl (fun H locs hW => ?_)
                    rw [show kc + 2 = kc + rl (e - j + 1) from by rw [hrl, if_neg (fun q => ce (congrArg nI q.symm))]] at hW
                    exact c228 o1 o2 c1 c2 _ _ _ h1_ i1 h2 i2 hl hW
                  · refine lv_iconst (v := 1) hx hb dX5_ask_219 (by decide) ?_
                    refine lv_goto (tgt := 224) hx hb dX5_ask_220 (by decide) ?_
                    refine lv_iadd hx hb dX5_ask_224 ?_
                    rw [wn_1]
                    refine p_ (ty := .int) X hinX5 tyX5 tyX5_ok nmX5 hW 0 rfl rfl 5 (by decide) 6 rfl rfl rfl (by decide +kernel) rfl rfl (Nat.le_of_ble_eq_true rfl) dX5_ask_225 (ws' := [(rb, .inr (5, [.ref vl, .ref kl, .ref co, .int ru, .int mo, .int (lk + nI (kc + 1)), .int wn, .int (qu + 1), .int bu])), (vl, .inr (11, [.int mv, .ref av, .int (nI vs.length)])), (av, .inl (Y.2.1 2, cv, .inr (.inr (.inr (.inr (fun k => vs[k]?)))))), (kl, .inr (11, [.int mk, .ref ak, .int (nI ks.length)])), (co, .inl (Y.2.1 4, 6, .inr (.inr (.inr (.inr (fun l => some (ca l)))))))] ++ (KT Y ak ck ks ++ va_pl L f)) rfl (fun H locs hW => ?_)
                    rw [show kc + 1 = kc + rl (e - j + 1) from by rw [hrl, if_pos ((nI_eq (by omega) (by omega)).mp ce).symm]] at hW
                    exact c228 o1 o2 c1 c2 _ _ _ h1_ i1 h2 i2 hl hW
                have c161 : ∀ (o1 : Nat) (c1 : Nat) (H : Heap) (locs : List Loc) (ls : Array Slot), (h1_ : vs[c1]? = some o1) → (i1 : isL g j (j + 2 ^ t - 1) c1) → lv_has ls 10 [(7, .int (nI (2 ^ t))), (6, .int (nI t)), (5, .int (nI e)), (4, .int (nI j)), (3, bv), (0, .ref rb), (1, .int (nI a)), (2, .int (nI b))] → Wd Dd A s.heap ([(rb, .inr (5, [.ref vl, .ref kl, .ref co, .int ru, .int mo, .int (lk + nI kc), .int wn, .int (qu + 1), .int bu])), (vl, .inr (11, [.int mv, .ref av, .int (nI vs.length)])), (av, .inl (Y.2.1 2, cv, .inr (.inr (.inr (.inr (fun k => vs[k]?)))))), (kl, .inr (11, [.int mk, .ref ak, .int (nI ks.length)])), (co, .inl (Y.2.1 4, 6, .inr (.inr (.inr (.inr (fun l => some (ca l)))))))] ++ (KT Y ak ck ks ++ va_pl L f)) H locs → W p₀ l e₀ rmX5_ask s m args below meth c₀ H locs (1) (4) Q (F0 m 161 ls [.ref o1]) := by
                  intro o1 c1 H locs ls h1_ i1 hl hW
                  refine lv_astore (lv' := [(8, .ref o1), (7, .int (nI (2 ^ t))), (6, .int (nI t)), (5, .int (nI e)), (4, .int (nI j)), (3, bv), (0, .ref rb), (1, .int (nI a)), (2, .int (nI b))]) hx hb dX5_ask_161 hl (by decide) rfl (fun ls hl => ?_)
                  refine lv_iload hx hb dX5_ask_163 (lv_at hl 2 rfl) ?_
                  refine lv_if_ne (tgt := 185) hx hb dX5_ask_165 (by decide) (fun cz => ?_) (fun cz => ?_)
                  · have ht0 : 1 ≤ t := Nat.one_le_iff_ne_zero.mpr (fun q => cz (by rw [q]; rfl))
                    have hzz : ∀ k : Nat, j ≤ k → k ≤ e → g (52 + k) = 0 := hz0.resolve_left (fun q => by have : 2 ^ 1 ≤ 2 ^ t := Nat.pow_le_pow_right (by decide) ht0; omega)
                    refine lv_aload_n hx hb dX5_ask_185 rfl (lv_at hl 6 rfl) ?_
                    refine g_ X hinX5 hW 0 rfl rfl 2 (by decide) 5 rfl rfl rfl dX5_ask_186 ?_
                    refine lv_iload hx hb dX5_ask_189 (lv_at hl 2 rfl) ?_
                    refine aO_ X hW 4 rfl (vp_in_nI (by omega) (by decide)) dX5_ask_191 ?_
                    rw [nI_clamp (by omega)]
                    refine W.eq (g2 := F0 m 192 ls [.ref (ca t)]) rfl ?_
                    refine lv_iload hx hb dX5_ask_192 (lv_at hl 3 rfl) ?_
                    refine lv_iload hx hb dX5_ask_194 (lv_at hl 1 rfl) ?_
                    refine lv_isub hx hb dX5_ask_196 ?_
                    refine lv_iconst (v := 1) hx hb dX5_ask_197 (by decide) ?_
                    refine lv_iadd hx hb dX5_ask_198 ?_
                    rw [show nI e - nI (2 ^ t) + 1 = nI (e + 1 - 2 ^ t) from by rw [sub_p1]; exact pk_sub (by omega)]
                    obtain ⟨o2, hv2⟩ := vs_at (vs := vs) (p := lm g (e + 1 - 2 ^ t) (2 ^ t - 1)) (lm_n (by omega))
                    have hv2c : clA (f (ca t)) (e + 1 - 2 ^ t) = some o2 := (hH t (e + 1 - 2 ^ t) ht0 ht.2 (by omega) (fun k q1 q2 => hzz k (by omega) (by omega))).trans hv2
                    refine aC_ X hW (hO.1 t (by omega)) (vp_in_nI (by omega) (by decide)) dX5_ask_199 ?_
                    rw [nI_clamp (by omega), hv2c]
                    refine W.eq (g2 := F0 m 200 ls [.ref o2]) rfl ?_
                    have i2 : isL g (e + 1 - 2 ^ t) e (lm g (e + 1 - 2 ^ t) (2 ^ t - 1)) := by have q := isL_p (g := g) (p := e + 1 - 2 ^ t) (t := t); rw [show e + 1 - 2 ^ t + 2 ^ t - 1 = e by omega] at q; exact q
                    exact c200 o1 o2 c1 _ _ _ _ h1_ i1 hv2 i2 hl hW
                  · have ht0 : t = 0 := by have := (nI_eq (b := 0) (by omega) (by decide)).mp cz; exact this
                    obtain ⟨o2, hv2⟩ := vs_at (vs := vs) (p := e) (by omega)
                    refine lv_aload_n hx hb dX5_ask_168 rfl (lv_at hl 6 rfl) ?_
                    refine g_ X hinX5 hW 0 rfl rfl 0 (by decide) 3 rfl rfl rfl dX5_ask_169 ?_
                    refine lv_iload hx hb dX5_ask_172 (lv_at hl 3 rfl) ?_
                    refine rF_ (As := [.int (nI e)]) (rest := []) (wc := [(vl, .inr (11, [.int mv, .ref av, .int (nI vs.length)])), (av, .inl (Y.2.1 2, cv, .inr (.inr (.inr (.inr (fun k => vs[k]?))))))]) (w9 := [(rb, .inr (5, [.ref vl, .ref kl, .ref co, .int ru, .int mo, .int (lk + nI kc), .int wn, .int (qu + 1), .int bu])), (kl, .inr (11, [.int mk, .ref ak, .int (nI ks.length)])), (co, .inl (Y.2.1 4, 6, .inr (.inr (.inr (.inr (fun l => some (ca l)))))))] ++ (KT Y ak ck ks ++ va_pl L f)) X 1 (kJx4a65c_get_915e3 l Dd Y vl av cv vs.length e mv (fun k => vs[k]?) (by omega) hC.1 (by omega)) gX5_ask_Jx4a65c_get_915e3_f30Jx4a65c rfl rfl rfl (by decide +kernel) (by decide +kernel) ⟨(Nat.le_of_ble_eq_true rfl), (Nat.le_of_ble_eq_true rfl)⟩ hW (pmq27 _ _ _ _ _ _) 0 11 rfl rfl rfl rfl hl.1 rfl (Nat.le_of_ble_eq_true rfl) dX5_ask_174 ⟨(Nat.le_of_ble_eq_true rfl), (Nat.le_of_ble_eq_true rfl)⟩ (fun rv wq H locs hp hW => ?_)
                    obtain ⟨rfl, rfl⟩ := hp
                    have hW : Wd Dd A s.heap ([(vl, .inr (11, [.int mv, .ref av, .int (nI vs.length)])), (av, .inl (Y.2.1 2, cv, .inr (.inr (.inr (.inr (fun k => vs[k]?)))))), (rb, .inr (5, [.ref vl, .ref kl, .ref co, .int ru, .int mo, .int (lk + nI kc), .int wn, .int (qu + 1), .int bu])), (kl, .inr (11, [.int mk, .ref ak, .int (nI ks.length)])), (co, .inl (Y.2.1 4, 6, .inr (.inr (.inr (.inr (fun l => some (ca l)))))))] ++ (KT Y ak ck ks ++ va_pl L f)) H locs := hW
                    have hW : Wd Dd A s.heap ([(rb, .inr (5, [.ref vl, .ref kl, .ref co, .int ru, .int mo, .int (lk + nI kc), .int wn, .int (qu + 1), .int bu])), (vl, .inr (11, [.int mv, .ref av, .int (nI vs.length)])), (av, .inl (Y.2.1 2, cv, .inr (.inr (.inr (.inr (fun k => vs[k]?)))))), (kl, .inr (11, [.int mk, .ref ak, .int (nI ks.length)])), (co, .inl (Y.2.1 4, 6, .inr (.inr (.inr (.inr (fun l => some (ca l)))))))] ++ (KT Y ak ck ks ++ va_pl L f)) H locs := hW.permA (pmq28 _ _ _ _ _ _)
                    refine W.eq (g2 := F0 m 179 ls [va_rf vs[e]?]) rfl ?_
                    rw [hv2]
                    refine W.eq (g2 := F0 m 179 ls [.ref o2]) rfl ?_
                    refine vCa_ X hW (hvo.at hv2) (i := 4) rfl dX5_ask_179 ?_
                    refine lv_goto (tgt := 200) hx hb dX5_ask_182 (by decide) ?_
                    have i2 : isL g (e + 1 - 2 ^ t) e e := by rw [ht0]; exact isL_1 g e
                    exact c200 o1 o2 c1 _ _ _ _ h1_ i1 hv2 i2 hl hW
                refine lv_iload hx hb dX5_ask_129 (lv_at hl 1 rfl) ?_
                refine lv_if_ne (tgt := 151) hx hb dX5_ask_131 (by decide) (fun cz => ?_) (fun cz => ?_)
                · have ht0 : 1 ≤ t := Nat.one_le_iff_ne_zero.mpr (fun q => cz (by rw [q]; rfl))
                  have hzz : ∀ k : Nat, j ≤ k → k ≤ e → g (52 + k) = 0 := hz0.resolve_left (fun q => by have : 2 ^ 1 ≤ 2 ^ t := Nat.pow_le_pow_right (by decide) ht0; omega)
                  refine lv_aload_n hx hb dX5_ask_151 rfl (lv_at hl 5 rfl) ?_
                  refine g_ X hinX5 hW 0 rfl rfl 2 (by decide) 5 rfl rfl rfl dX5_ask_152 ?_
                  refine lv_iload hx hb dX5_ask_155 (lv_at hl 1 rfl) ?_
                  refine aO_ X hW 4 rfl (vp_in_nI (by omega) (by decide)) dX5_ask_157 ?_
                  rw [nI_clamp (by omega)]
                  refine W.eq (g2 := F0 m 158 ls [.ref (ca t)]) rfl ?_
                  refine lv_iload hx hb dX5_ask_158 (lv_at hl 3 rfl) ?_
                  obtain ⟨o1, hv1⟩ := vs_at (vs := vs) (p := lm g j (2 ^ t - 1)) (lm_n (by omega))
                  have hv1c : clA (f (ca t)) j = some o1 := (hH t j ht0 ht.2 (by omega) (fun k q1 q2 => hzz k (by omega) (by omega))).trans hv1
                  refine aC_ X hW (hO.1 t (by omega)) (vp_in_nI (by omega) (by decide)) dX5_ask_160 ?_
                  rw [nI_clamp (by omega), hv1c]
                  refine W.eq (g2 := F0 m 161 ls [.ref o1]) rfl ?_
                  exact c161 o1 _ _ _ _ hv1 isL_p hl hW
                · have ht0 : t = 0 := by have := (nI_eq (b := 0) (by omega) (by decide)).mp cz; exact this
                  obtain ⟨o1, hv1⟩ := vs_at (vs := vs) (p := j) (by omega)
                  refine lv_aload_n hx hb dX5_ask_134 rfl (lv_at hl 5 rfl) ?_
                  refine g_ X hinX5 hW 0 rfl rfl 0 (by decide) 3 rfl rfl rfl dX5_ask_135 ?_
                  refine lv_iload hx hb dX5_ask_138 (lv_at hl 3 rfl) ?_
                  refine rF_ (As := [.int (nI j)]) (rest := []) (wc := [(vl, .inr (11, [.int mv, .ref av, .int (nI vs.length)])), (av, .inl (Y.2.1 2, cv, .inr (.inr (.inr (.inr (fun k => vs[k]?))))))]) (w9 := [(rb, .inr (5, [.ref vl, .ref kl, .ref co, .int ru, .int mo, .int (lk + nI kc), .int wn, .int (qu + 1), .int bu])), (kl, .inr (11, [.int mk, .ref ak, .int (nI ks.length)])), (co, .inl (Y.2.1 4, 6, .inr (.inr (.inr (.inr (fun l => some (ca l)))))))] ++ (KT Y ak ck ks ++ va_pl L f)) X 1 (kJx4a65c_get_915e3 l Dd Y vl av cv vs.length j mv (fun k => vs[k]?) (by omega) hC.1 (by omega)) gX5_ask_Jx4a65c_get_915e3_f30Jx4a65c rfl rfl rfl (by decide +kernel) (by decide +kernel) ⟨(Nat.le_of_ble_eq_true rfl), (Nat.le_of_ble_eq_true rfl)⟩ hW (pmq27 _ _ _ _ _ _) 0 11 rfl rfl rfl rfl hl.1 rfl (Nat.le_of_ble_eq_true rfl) dX5_ask_140 ⟨(Nat.le_of_ble_eq_true rfl), (Nat.le_of_ble_eq_true rfl)⟩ (fun rv wq H locs hp hW => ?_)
                  obtain ⟨rfl, rfl⟩ := hp
                  have hW : Wd Dd A s.heap ([(vl, .inr (11, [.int mv, .ref av, .int (nI vs.length)])), (av, .inl (Y.2.1 2, cv, .inr (.inr (.inr (.inr (fun k => vs[k]?)))))), (rb, .inr (5, [.ref vl, .ref kl, .ref co, .int ru, .int mo, .int (lk + nI kc), .int wn, .int (qu + 1), .int bu])), (kl, .inr (11, [.int mk, .ref ak, .int (nI ks.length)])), (co, .inl (Y.2.1 4, 6, .inr (.inr (.inr (.inr (fun l => some (ca l)))))))] ++ (KT Y ak ck ks ++ va_pl L f)) H locs := hW
                  have hW : Wd Dd A s.heap ([(rb, .inr (5, [.ref vl, .ref kl, .ref co, .int ru, .int mo, .int (lk + nI kc), .int wn, .int (qu + 1), .int bu])), (vl, .inr (11, [.int mv, .ref av, .int (nI vs.length)])), (av, .inl (Y.2.1 2, cv, .inr (.inr (.inr (.inr (fun k => vs[k]?)))))), (kl, .inr (11, [.int mk, .ref ak, .int (nI ks.length)])), (co, .inl (Y.2.1 4, 6, .inr (.inr (.inr (.inr (fun l => some (ca l)))))))] ++ (KT Y ak ck ks ++ va_pl L f)) H locs := hW.permA (pmq28 _ _ _ _ _ _)
                  refine W.eq (g2 := F0 m 145 ls [va_rf vs[j]?]) rfl ?_
                  rw [hv1]
                  refine W.eq (g2 := F0 m 145 ls [.ref o1]) rfl ?_
                  refine vCa_ X hW (hvo.at hv1) (i := 4) rfl dX5_ask_145 ?_
                  refine lv_goto (tgt := 161) hx hb dX5_ask_148 (by decide) ?_
                  exact c161 o1 _ _ _ _ hv1 (by rw [ht0]; exact isL_1 g j) hl hW
              · have hr : 2 * 2 ^ t ≤ e - j + 1 := Nat.le_of_not_lt (fun h => ct ((nI_ltI (by omega) (by omega)).mpr h))
                refine lv_iload hx hb dX5_ask_117 (lv_at hl 0 rfl) ?_
                refine lv_iconst (v := 2) hx hb dX5_ask_119 (by decide) ?_
                refine lv_imul hx hb dX5_ask_120 ?_
                rw [nI_dbl, Nat.mul_comm, ← hp1]
                refine lv_istore (lv' := [(7, .int (nI (2 ^ (t + 1)))), (6, .int (nI t)), (5, .int (nI e)), (4, .int (nI j)), (3, bv), (0, .ref rb), (1, .int (nI a)), (2, .int (nI b))]) hx hb dX5_ask_121 hl (by decide) rfl (fun ls hl => ?_)
                refine lv_iinc (v := (nI t) + 1) (lv' := [(6, .int ((nI t) + 1)), (7, .int (nI (2 ^ (t + 1)))), (5, .int (nI e)), (4, .int (nI j)), (3, bv), (0, .ref rb), (1, .int (nI a)), (2, .int (nI b))]) hx hb dX5_ask_123 hl (k := 1) rfl rfl (by decide) rfl (fun ls hl => ?_)
                rw [nI_1] at hl
                refine lv_goto (tgt := 103) hx hb dX5_ask_126 (by decide) ?_
                have hl : lv_has ls 10 [(7, .int (nI (2 ^ (t + 1)))), (6, .int (nI (t + 1))), (5, .int (nI e)), (4, .int (nI j)), (3, bv), (0, .ref rb), (1, .int (nI a)), (2, .int (nI b))] := lv_sub hl [1, 0, 2, 3, 4, 5, 6, 7] rfl
                exact iht (t + 1) _ _ _ ⟨by omega, by have := pw_5 (l := t + 1) (n := 40) (by omega) (Nat.le_refl _); omega⟩ (by omega) hl hW
          exact lpt 7 0 _ _ _ ⟨by show 1 ≤ _; omega, by decide⟩ (by decide) hl hW
        obtain ⟨v0, hv0⟩ := vs_at (vs := vs) (p := j) (by omega)
        refine lv_iload hx hb dX5_ask_39 (lv_at hl 0 rfl) ?_
        refine lv_istore (lv' := [(5, .int (nI j)), (4, .int (nI j)), (3, bv), (0, .ref rb), (1, .int (nI a)), (2, .int (nI b))]) hx hb dX5_ask_41 hl (by decide) rfl (fun ls hl => ?_)
        refine lv_aload_n hx hb dX5_ask_43 rfl (lv_at hl 3 rfl) ?_
        refine g_ X hinX5 hW 0 rfl rfl 0 (by decide) 3 rfl rfl rfl dX5_ask_44 ?_
        refine lv_iload hx hb dX5_ask_47 (lv_at hl 1 rfl) ?_
        refine rF_ (As := [.int (nI j)]) (rest := []) (wc := [(vl, .inr (11, [.int mv, .ref av, .int (nI vs.length)])), (av, .inl (Y.2.1 2, cv, .inr (.inr (.inr (.inr (fun k => vs[k]?))))))]) (w9 := [(rb, .inr (5, [.ref vl, .ref kl, .ref co, .int ru, .int mo, .int (lk + nI kc), .int wn, .int (qu + 1), .int bu])), (kl, .inr (11, [.int mk, .ref ak, .int (nI ks.length)])), (co, .inl (Y.2.1 4, 6, .inr (.inr (.inr (.inr (fun l => some (ca l)))))))] ++ (KT Y ak ck ks ++ va_pl L f)) X 1 (kJx4a65c_get_915e3 l Dd Y vl av cv vs.length j mv (fun k => vs[k]?) (by omega) hC.1 (by omega)) gX5_ask_Jx4a65c_get_915e3_f30Jx4a65c rfl rfl rfl (by decide +kernel) (by decide +kernel) ⟨(Nat.le_of_ble_eq_true rfl), (Nat.le_of_ble_eq_true rfl)⟩ hW (pmq27 _ _ _ _ _ _) 0 11 rfl rfl rfl rfl hl.1 rfl (Nat.le_of_ble_eq_true rfl) dX5_ask_49 ⟨(Nat.le_of_ble_eq_true rfl), (Nat.le_of_ble_eq_true rfl)⟩ (fun rv wq H locs hp hW => ?_)
        obtain ⟨rfl, rfl⟩ := hp
        have hW : Wd Dd A s.heap ([(vl, .inr (11, [.int mv, .ref av, .int (nI vs.length)])), (av, .inl (Y.2.1 2, cv, .inr (.inr (.inr (.inr (fun k => vs[k]?)))))), (rb, .inr (5, [.ref vl, .ref kl, .ref co, .int ru, .int mo, .int (lk + nI kc), .int wn, .int (qu + 1), .int bu])), (kl, .inr (11, [.int mk, .ref ak, .int (nI ks.length)])), (co, .inl (Y.2.1 4, 6, .inr (.inr (.inr (.inr (fun l => some (ca l)))))))] ++ (KT Y ak ck ks ++ va_pl L f)) H locs := hW
        have hW : Wd Dd A s.heap ([(rb, .inr (5, [.ref vl, .ref kl, .ref co, .int ru, .int mo, .int (lk + nI kc), .int wn, .int (qu + 1), .int bu])), (vl, .inr (11, [.int mv, .ref av, .int (nI vs.length)])), (av, .inl (Y.2.1 2, cv, .inr (.inr (.inr (.inr (fun k => vs[k]?)))))), (kl, .inr (11, [.int mk, .ref ak, .int (nI ks.length)])), (co, .inl (Y.2.1 4, 6, .inr (.inr (.inr (.inr (fun l => some (ca l)))))))] ++ (KT Y ak ck ks ++ va_pl L f)) H locs := hW.permA (pmq28 _ _ _ _ _ _)
        refine W.eq (g2 := F0 m 54 ls [va_rf vs[j]?]) rfl ?_
        rw [hv0]
        refine W.eq (g2 := F0 m 54 ls [.ref v0]) rfl ?_
        refine vCa_ X hW (hvo.at hv0) (i := 4) rfl dX5_ask_54 ?_
        refine gVw_ X hinX7 hW (hvo.at hv0) dX5_ask_57 ?_
        refine lv_if_ne (tgt := 97) hx hb dX5_ask_60 (by decide) (fun cw => ?_) (fun cw => ?_)
        · have hw1 : g (52 + j) = 1 := (hw j v0 hv0).trans ((hvo.at hv0).2.2.resolve_left cw)
          exact c97 j _ _ _ ⟨Nat.le_refl _, hle⟩ (by rw [show b + 1 - j = (b - j) + 1 by omega, cl, if_pos (Wg_1 hw1), Nat.sub_self, show b + 1 - (j + 1) = b - j by omega]; rfl) (Or.inl rfl) hl hW
        · have hw1 : g (52 + j) = 0 := (hw j v0 hv0).trans cw
          have lpe : ∀ (d : Nat) (e : Nat) (H : Heap) (locs : List Loc) (ls : Array Slot), (he : j ≤ e ∧ e ≤ b) → (hz : ∀ k : Nat, j ≤ k → k ≤ e → g (52 + k) = 0) → (b < d + e) → lv_has ls 10 [(5, .int (nI e)), (4, .int (nI j)), (3, bv), (0, .ref rb), (1, .int (nI a)), (2, .int (nI b))] → Wd Dd A s.heap ([(rb, .inr (5, [.ref vl, .ref kl, .ref co, .int ru, .int mo, .int (lk + nI kc), .int wn, .int (qu + 1), .int bu])), (vl, .inr (11, [.int mv, .ref av, .int (nI vs.length)])), (av, .inl (Y.2.1 2, cv, .inr (.inr (.inr (.inr (fun k => vs[k]?)))))), (kl, .inr (11, [.int mk, .ref ak, .int (nI ks.length)])), (co, .inl (Y.2.1 4, 6, .inr (.inr (.inr (.inr (fun l => some (ca l)))))))] ++ (KT Y ak ck ks ++ va_pl L f)) H locs → W p₀ l e₀ rmX5_ask s m args below meth c₀ H locs (1) (4) Q (F0 m 63 ls []) := by
            intro d
            induction d with
            | zero => intro e H locs ls he hz hfu; exact absurd hfu (by omega)
            | succ d ihe =>
              intro e H locs ls he hz hfu hl hW
              have hcl0 : (e = b ∨ Wg g (e + 1) = true) → cl (Wg g) (b + 1 - j) j 0 = rl (e - j + 1) + cl (Wg g) (b + 1 - (e + 1)) (e + 1) 0 := fun q => by rw [show b + 1 - j = (e - j + 1) + (b + 1 - (e + 1)) by omega, cl_run _ _ _ _ (fun k q1 q2 => Wg_0 (hz k q1 (by omega))), show j + (e - j + 1) = e + 1 by omega, Nat.zero_add]; exact cl_w (q.imp (fun z => by omega) id)
              refine lv_iload hx hb dX5_ask_63 (lv_at hl 0 rfl) ?_
              refine lv_iload_n hx hb dX5_ask_65 rfl (lv_at hl 5 rfl) ?_
              refine lv_icmp_ge (tgt := 97) hx hb dX5_ask_66 (by decide) (fun ce => ?_) (fun ce => ?_)
              · have eb : e = b := by have := (nI_leI (by omega) (by omega)).mp ce; omega
                exact c97 e _ _ _ he (hcl0 (Or.inl eb)) (Or.inr hz) hl hW
              · have elt : e < b := Nat.lt_of_not_le (fun h => ce ((nI_leI (by omega) (by omega)).mpr h))
                obtain ⟨v1, hv1⟩ := vs_at (vs := vs) (p := e + 1) (by omega)
                refine lv_aload_n hx hb dX5_ask_69 rfl (lv_at hl 3 rfl) ?_
                refine g_ X hinX5 hW 0 rfl rfl 0 (by decide) 3 rfl rfl rfl dX5_ask_70 ?_
                refine lv_iload hx hb dX5_ask_73 (lv_at hl 0 rfl) ?_
                refine lv_iconst (v := 1) hx hb dX5_ask_75 (by decide) ?_
                refine lv_iadd hx hb dX5_ask_76 ?_
                rw [nI_1]
                refine rF_ (As := [.int (nI (e + 1))]) (rest := []) (wc := [(vl, .inr (11, [.int mv, .ref av, .int (nI vs.length)])), (av, .inl (Y.2.1 2, cv, .inr (.inr (.inr (.inr (fun k => vs[k]?))))))]) (w9 := [(rb, .inr (5, [.ref vl, .ref kl, .ref co, .int ru, .int mo, .int (lk + nI kc), .int wn, .int (qu + 1), .int bu])), (kl, .inr (11, [.int mk, .ref ak, .int (nI ks.length)])), (co, .inl (Y.2.1 4, 6, .inr (.inr (.inr (.inr (fun l => some (ca l)))))))] ++ (KT Y ak ck ks ++ va_pl L f)) X 1 (kJx4a65c_get_915e3 l Dd Y vl av cv vs.length (e + 1) mv (fun k => vs[k]?) (by omega) hC.1 (by omega)) gX5_ask_Jx4a65c_get_915e3_f30Jx4a65c rfl rfl rfl (by decide +kernel) (by decide +kernel) ⟨(Nat.le_of_ble_eq_true rfl), (Nat.le_of_ble_eq_true rfl)⟩ hW (pmq27 _ _ _ _ _ _) 0 11 rfl rfl rfl rfl hl.1 rfl (Nat.le_of_ble_eq_true rfl) dX5_ask_77 ⟨(Nat.le_of_ble_eq_true rfl), (Nat.le_of_ble_eq_true rfl)⟩ (fun rv wq H locs hp hW => ?_)
                obtain ⟨rfl, rfl⟩ := hp
                have hW : Wd Dd A s.heap ([(vl, .inr (11, [.int mv, .ref av, .int (nI vs.length)])), (av, .inl (Y.2.1 2, cv, .inr (.inr (.inr (.inr (fun k => vs[k]?)))))), (rb, .inr (5, [.ref vl, .ref kl, .ref co, .int ru, .int mo, .int (lk + nI kc), .int wn, .int (qu + 1), .int bu])), (kl, .inr (11, [.int mk, .ref ak, .int (nI ks.length)])), (co, .inl (Y.2.1 4, 6, .inr (.inr (.inr (.inr (fun l => some (ca l)))))))] ++ (KT Y ak ck ks ++ va_pl L f)) H locs := hW
                have hW : Wd Dd A s.heap ([(rb, .inr (5, [.ref vl, .ref kl, .ref co, .int ru, .int mo, .int (lk + nI kc), .int wn, .int (qu + 1), .int bu])), (vl, .inr (11, [.int mv, .ref av, .int (nI vs.length)])), (av, .inl (Y.2.1 2, cv, .inr (.inr (.inr (.inr (fun k => vs[k]?)))))), (kl, .inr (11, [.int mk, .ref ak, .int (nI ks.length)])), (co, .inl (Y.2.1 4, 6, .inr (.inr (.inr (.inr (fun l => some (ca l)))))))] ++ (KT Y ak ck ks ++ va_pl L f)) H locs := hW.permA (pmq28 _ _ _ _ _ _)
                refine W.eq (g2 := F0 m 82 ls [va_rf vs[(e + 1)]?]) rfl ?_
                rw [hv1]
                refine W.eq (g2 := F0 m 82 ls [.ref v1]) rfl ?_
                refine vCa_ X hW (hvo.at hv1) (i := 4) rfl dX5_ask_82 ?_
                refine gVw_ X hinX7 hW (hvo.at hv1) dX5_ask_85 ?_
                refine lv_if_ne (tgt := 97) hx hb dX5_ask_88 (by decide) (fun cf => ?_) (fun cf => ?_)
                · exact c97 e _ _ _ he (hcl0 (Or.inr (Wg_1 ((hw (e + 1) v1 hv1).trans ((hvo.at hv1).2.2.resolve_left cf))))) (Or.inr hz) hl hW
                · refine lv_iinc (v := (nI e) + 1) (lv' := [(5, .int ((nI e) + 1)), (4, .int (nI j)), (3, bv), (0, .ref rb), (1, .int (nI a)), (2, .int (nI b))]) hx hb dX5_ask_91 hl (k := 0) rfl rfl (by decide) rfl (fun ls hl => ?_)
                  rw [nI_1] at hl
                  refine lv_goto (tgt := 63) hx hb dX5_ask_94 (by decide) ?_
                  exact ihe (e + 1) _ _ _ ⟨by omega, by omega⟩ (fun k q1 q2 => by rcases Nat.lt_or_ge k (e + 1) with q | q; exact hz k q1 (by omega); rw [show k = e + 1 by omega]; exact (hw (e + 1) v1 hv1).trans cf) (by omega) hl hW
          exact lpe (b + 1) j _ _ _ ⟨Nat.le_refl _, hle⟩ (fun k q1 q2 => by rw [show k = j by omega]; exact hw1) (by omega) hl hW
  exact lpo (b + 2) a 0 .null _ _ _ ⟨Nat.le_refl _, by omega⟩ (Nat.zero_add _) (Or.inl ⟨rfl, rfl⟩) (by omega) hl (by rw [show lk + nI 0 = lk from Int32.add_zero lk]; exact hW)
set_option maxRecDepth 100000 in
set_option maxHeartbeats 4000000 in
theorem kAskB (l : Launch) (Dd : va_G) (Y : yT) (rb vl kl co av cv ak ck : Nat) (ca : Nat → Nat) (vs ks L : List Nat) (f : Nat → va_E) (ru mo lk wn qu bu mv mk : Int32) (a b : Nat) (g0 : Nat → Int32) (hg0 : NG vs f g0) (hw0 : NW vs f g0) (hC : vs.length ≤ cv ∧ cv ≤ 600) (hvo0 : VO L vs f) (hO0 : CO Y L ca f) (h3 : vs.length ≤ 40) (hab : a ≤ b) (hbn : b < vs.length) (hru : ru = 0) (hz : ¬ wc g0 vs.length = 0) : MR l yX5_ask wsX5_ask rmX5_ask Dd Y [.ref rb, .int (nI a), .int (nI b)] ([(rb, .inr (5, [.ref vl, .ref kl, .ref co, .int ru, .int mo, .int lk, .int wn, .int qu, .int bu])), (vl, .inr (11, [.int mv, .ref av, .int (nI vs.length)])), (av, .inl (Y.2.1 2, cv, .inr (.inr (.inr (.inr (fun k => vs[k]?)))))), (kl, .inr (11, [.int mk, .ref ak, .int (nI ks.length)])), (co, .inl (Y.2.1 4, 6, .inr (.inr (.inr (.inr (fun l => some (ca l)))))))] ++ (KT Y ak ck ks ++ va_pl L f)) (fun rv w => ∃ f' : Nat → va_E, BLD Y vs L ca g0 f f' ∧ ∃ g : Nat → Int32, g = clrW g0 ∧ rv = some (.int (nI (lm g a (b - a)))) ∧ w = [(rb, .inr (5, [.ref vl, .ref kl, .ref co, .int ru, .int mo, .int (lk + nI (cl (Wg g) (b + 1 - a) a 0)), .int (wn + nI (cs (fun l => vs.length + 1 - 2 ^ l) 5)), .int (qu + 1), .int (bu + 1)])), (vl, .inr (11, [.int mv, .ref av, .int (nI vs.length)])), (av, .inl (Y.2.1 2, cv, .inr (.inr (.inr (.inr (fun k => vs[k]?)))))), (kl, .inr (11, [.int mk, .ref ak, .int (nI ks.length)])), (co, .inl (Y.2.1 4, 6, .inr (.inr (.inr (.inr (fun l => some (ca l)))))))] ++ (KT Y ak ck ks ++ va_pl L f')) 2 8 := by
  refine MRk (cc := cX5_ask) (maxL := 10) (ret := (some .int)) (by decide) rfl (Nat.le_of_ble_eq_true rfl) (fun {p₀ e₀ s m args below meth c₀ A} ls Q X hin hW hl hI hV hA => ?_)
  have hx := X.x
  have hb := X.b
  have hl : lv_has ls 10 [(0, .ref rb), (1, .int (nI a)), (2, .int (nI b))] := hl
  have hinX5 : ∀ w ∈ wsX50, w ∈ wsX5_ask := fun w h => List.mem_cons_of_mem _ (List.mem_append_left _ (List.mem_append_left _ (List.mem_append_left _ (List.mem_append_right _ h))))
  have hinX7 : ∀ w ∈ wsX70, w ∈ wsX5_ask := fun w h => List.mem_cons_of_mem _ (List.mem_append_left _ (List.mem_append_left _ (List.mem_append_right _ h)))
  refine lv_aload_n hx hb dX5_ask_0 rfl (lv_at hl 0 rfl) ?_
  refine g_ X hinX5 hW 0 rfl rfl 3 (by decide) 1 rfl rfl rfl dX5_ask_1 ?_
  refine lv_if_ne (tgt := 18) hx hb dX5_ask_4 (by decide) (fun h => absurd h (fun h => h hru)) (fun _ => ?_)
  refine lv_aload_n hx hb dX5_ask_7 rfl (lv_at hl 0 rfl) ?_
  refine rV_ (As := []) (rest := []) (wc := [(rb, .inr (5, [.ref vl, .ref kl, .ref co, .int ru, .int mo, .int lk, .int wn, .int qu, .int bu])), (vl, .inr (11, [.int mv, .ref av, .int (nI vs.length)])), (av, .inl (Y.2.1 2, cv, .inr (.inr (.inr (.inr (fun k => vs[k]?)))))), (kl, .inr (11, [.int mk, .ref ak, .int (nI ks.length)])), (co, .inl (Y.2.1 4, 6, .inr (.inr (.inr (.inr (fun l => some (ca l)))))))] ++ (KT Y ak ck ks ++ va_pl L f)) (w9 := []) X (kX5_waiting l Dd Y rb vl kl co av cv ak ck ca vs ks L f ru mo lk wn qu bu mv mk g0 hw0 hC hvo0) (cwV 0 X.1.2.2.2.2 gX5_ask_X5_waiting rfl rfl rfl (by decide +kernel) ⟨(Nat.le_of_ble_eq_true rfl), (Nat.le_of_ble_eq_true rfl)⟩) hW (by rw [List.append_nil]) 0 5 rfl rfl rfl rfl hl.1 rfl (Nat.le_of_ble_eq_true rfl) dX5_ask_8 ⟨(Nat.le_of_ble_eq_true rfl), (Nat.le_of_ble_eq_true rfl)⟩ (fun rv wq H locs hp hW => ?_)
  obtain ⟨rfl, rfl⟩ := hp
  have hW : Wd Dd A s.heap ([(rb, .inr (5, [.ref vl, .ref kl, .ref co, .int ru, .int mo, .int lk, .int wn, .int qu, .int bu])), (vl, .inr (11, [.int mv, .ref av, .int (nI vs.length)])), (av, .inl (Y.2.1 2, cv, .inr (.inr (.inr (.inr (fun k => vs[k]?)))))), (kl, .inr (11, [.int mk, .ref ak, .int (nI ks.length)])), (co, .inl (Y.2.1 4, 6, .inr (.inr (.inr (.inr (fun l => some (ca l)))))))] ++ (KT Y ak ck ks ++ va_pl L f)) H locs := by rw [List.append_nil] at hW; exact hW
  refine W.eq (g2 := F0 m 11 ls [.int (nI (wc g0 vs.length))]) rfl ?_
  refine lv_if_le (tgt := 18) hx hb dX5_ask_11 (by decide) (fun h => absurd h (fun h => hz (by have q := wc_le g0 vs.length; exact Nat.le_zero.mp ((nI_leI (b := 0) (by omega) (by decide)).mp h)))) (fun _ => ?_)
  refine lv_aload_n hx hb dX5_ask_14 rfl (lv_at hl 0 rfl) ?_
  refine rV_ (As := []) (rest := []) (wc := [(rb, .inr (5, [.ref vl, .ref kl, .ref co, .int ru, .int mo, .int lk, .int wn, .int qu, .int bu])), (vl, .inr (11, [.int mv, .ref av, .int (nI vs.length)])), (av, .inl (Y.2.1 2, cv, .inr (.inr (.inr (.inr (fun k => vs[k]?)))))), (kl, .inr (11, [.int mk, .ref ak, .int (nI ks.length)])), (co, .inl (Y.2.1 4, 6, .inr (.inr (.inr (.inr (fun l => some (ca l)))))))] ++ (KT Y ak ck ks ++ va_pl L f)) (w9 := []) X (kX5_build l Dd Y rb vl kl co av cv ak ck ca vs ks L f ru mo lk wn qu bu mv mk g0 hg0 hC hvo0 hO0 h3) (cwV 0 X.1.2.2.2.2 gX5_ask_X5_build rfl rfl rfl (by decide +kernel) ⟨(Nat.le_of_ble_eq_true rfl), (Nat.le_of_ble_eq_true rfl)⟩) hW (by rw [List.append_nil]) 0 5 rfl rfl rfl rfl hl.1 rfl (Nat.le_of_ble_eq_true rfl) dX5_ask_15 ⟨(Nat.le_of_ble_eq_true rfl), (Nat.le_of_ble_eq_true rfl)⟩ (fun rv wq H locs hp hW => ?_)
  obtain ⟨f', hf', rfl, rfl⟩ := hp
  have hW : Wd Dd A s.heap ([(rb, .inr (5, [.ref vl, .ref kl, .ref co, .int ru, .int mo, .int lk, .int (wn + nI (cs (fun l => vs.length + 1 - 2 ^ l) 5)), .int qu, .int (bu + 1)])), (vl, .inr (11, [.int mv, .ref av, .int (nI vs.length)])), (av, .inl (Y.2.1 2, cv, .inr (.inr (.inr (.inr (fun k => vs[k]?)))))), (kl, .inr (11, [.int mk, .ref ak, .int (nI ks.length)])), (co, .inl (Y.2.1 4, 6, .inr (.inr (.inr (.inr (fun l => some (ca l)))))))] ++ (KT Y ak ck ks ++ va_pl L f')) H locs := by rw [List.append_nil] at hW; exact hW
  refine W.eq (g2 := F0 m 18 ls []) rfl ?_
  have hvo : VO L vs f' := BLD.vo hf' hvo0
  have hO : CO Y L ca f' := hf'.2.2.1
  obtain ⟨g, hgg, hg, hw, hH⟩ : ∃ g : Nat → Int32, g = clrW g0 ∧ NG vs f' g ∧ NW vs f' g ∧ HCo vs ca f' g := ⟨_, rfl, BLD.ng hf' hg0 h3, BLD.nw hf' h3, BLD.hc hf' h3⟩
  refine lv_aload_n hx hb dX5_ask_18 rfl (lv_at hl 0 rfl) ?_
  refine lv_dup hx hb dX5_ask_19 rfl ?_
  refine g_ X hinX5 hW 0 rfl rfl 7 (by decide) 2 rfl rfl rfl dX5_ask_20 ?_
  refine lv_iconst (v := 1) hx hb dX5_ask_23 (by decide) ?_
  refine lv_iadd hx hb dX5_ask_24 ?_
  refine p_ (ty := .int) X hinX5 tyX5 tyX5_ok nmX5 hW 0 rfl rfl 7 (by decide) 2 rfl rfl rfl (by decide +kernel) rfl rfl (Nat.le_of_ble_eq_true rfl) dX5_ask_25 (ws' := [(rb, .inr (5, [.ref vl, .ref kl, .ref co, .int ru, .int mo, .int lk, .int (wn + nI (cs (fun l => vs.length + 1 - 2 ^ l) 5)), .int (qu + 1), .int (bu + 1)])), (vl, .inr (11, [.int mv, .ref av, .int (nI vs.length)])), (av, .inl (Y.2.1 2, cv, .inr (.inr (.inr (.inr (fun k => vs[k]?)))))), (kl, .inr (11, [.int mk, .ref ak, .int (nI ks.length)])), (co, .inl (Y.2.1 4, 6, .inr (.inr (.inr (.inr (fun l => some (ca l)))))))] ++ (KT Y ak ck ks ++ va_pl L f')) rfl (fun H locs hW => ?_)
  refine lv_null hx hb dX5_ask_28 ?_
  refine lv_astore_nN (lv' := [(3, .null), (0, .ref rb), (1, .int (nI a)), (2, .int (nI b))]) hx hb dX5_ask_29 rfl hl (by decide) rfl (fun ls hl => ?_)
  refine lv_iload_n hx hb dX5_ask_30 rfl (lv_at hl 2 rfl) ?_
  refine lv_istore (lv' := [(4, .int (nI a)), (3, .null), (0, .ref rb), (1, .int (nI a)), (2, .int (nI b))]) hx hb dX5_ask_31 hl (by decide) rfl (fun ls hl => ?_)
  have lpo : ∀ (d : Nat) (j : Nat) (kc : Nat) (bv : Value) (H : Heap) (locs : List Loc) (ls : Array Slot), (hj : a ≤ j ∧ j ≤ b + 1) → (hkc : kc + cl (Wg g) (b + 1 - j) j 0 = cl (Wg g) (b + 1 - a) a 0) → (hbv : (j = a ∧ bv = .null) ∨ (a < j ∧ ∃ v : Nat, bv = .ref v ∧ vs[lm g a (j - 1 - a)]? = some v)) → (b + 1 < d + j) → lv_has ls 10 [(4, .int (nI j)), (3, bv), (0, .ref rb), (1, .int (nI a)), (2, .int (nI b))] → Wd Dd A s.heap ([(rb, .inr (5, [.ref vl, .ref kl, .ref co, .int ru, .int mo, .int (lk + nI kc), .int (wn + nI (cs (fun l => vs.length + 1 - 2 ^ l) 5)), .int (qu + 1), .int (bu + 1)])), (vl, .inr (11, [.int mv, .ref av, .int (nI vs.length)])), (av, .inl (Y.2.1 2, cv, .inr (.inr (.inr (.inr (fun k => vs[k]?)))))), (kl, .inr (11, [.int mk, .ref ak, .int (nI ks.length)])), (co, .inl (Y.2.1 4, 6, .inr (.inr (.inr (.inr (fun l => some (ca l)))))))] ++ (KT Y ak ck ks ++ va_pl L f')) H locs → W p₀ l e₀ rmX5_ask s m args below meth c₀ H locs (2) (8) Q (F0 m 33 ls []) := by
    intro d
    induction d with
    | zero => intro j kc bv H locs ls hj hkc hbv hfu; exact absurd hfu (by omega)
    | succ d ih =>
      intro j kc bv H locs ls hj hkc hbv hfu hl hW
      refine lv_iload hx hb dX5_ask_33 (lv_at hl 0 rfl) ?_
      refine lv_iload_n hx hb dX5_ask_35 rfl (lv_at hl 4 rfl) ?_
      refine lv_icmp_gt (tgt := 271) hx hb dX5_ask_36 (by decide) (fun cq => ?_) (fun cq => ?_)
      · have e : j = b + 1 := by have := (nI_ltI (by omega) (by omega)).mp cq; omega
        obtain ⟨q0, -⟩ | ⟨-, v, rfl, hv⟩ := hbv
        · omega
        refine lv_aload_n hx hb dX5_ask_271 rfl (lv_at hl 2 rfl) ?_
        refine lv_aload_n hx hb dX5_ask_272 rfl (lv_at hl 1 rfl) ?_
        refine rV_ (As := [.ref v]) (rest := []) (wc := [(rb, .inr (5, [.ref vl, .ref kl, .ref co, .int ru, .int mo, .int (lk + nI kc), .int (wn + nI (cs (fun l => vs.length + 1 - 2 ^ l) 5)), .int (qu + 1), .int (bu + 1)])), (vl, .inr (11, [.int mv, .ref av, .int (nI vs.length)])), (av, .inl (Y.2.1 2, cv, .inr (.inr (.inr (.inr (fun k => vs[k]?)))))), (kl, .inr (11, [.int mk, .ref ak, .int (nI ks.length)])), (co, .inl (Y.2.1 4, 6, .inr (.inr (.inr (.inr (fun l => some (ca l)))))))] ++ (KT Y ak ck ks ++ va_pl L f')) (w9 := []) X (kX5_placeOf l Dd Y rb vl kl co av cv ak ck ca vs ks L f' ru mo (lk + nI kc) (wn + nI (cs (fun l => vs.length + 1 - 2 ^ l) 5)) (qu + 1) (bu + 1) mv mk v (lm g a (b - a)) hC hvo.1 (by rw [← hv, e, Nat.add_sub_cancel])) (cwV 1 X.1.2.2.2.2 gX5_ask_X5_placeOf rfl rfl rfl (by decide +kernel) ⟨(Nat.le_of_ble_eq_true rfl), (Nat.le_of_ble_eq_true rfl)⟩) hW (by rw [List.append_nil]) 0 5 rfl rfl rfl rfl hl.1 rfl (Nat.le_of_ble_eq_true rfl) dX5_ask_273 ⟨(Nat.le_of_ble_eq_true rfl), (Nat.le_of_ble_eq_true rfl)⟩ (fun rv wq H locs hp hW => ?_)
        obtain ⟨rfl, rfl⟩ := hp
        have hW : Wd Dd A s.heap ([(rb, .inr (5, [.ref vl, .ref kl, .ref co, .int ru, .int mo, .int (lk + nI kc), .int (wn + nI (cs (fun l => vs.length + 1 - 2 ^ l) 5)), .int (qu + 1), .int (bu + 1)])), (vl, .inr (11, [.int mv, .ref av, .int (nI vs.length)])), (av, .inl (Y.2.1 2, cv, .inr (.inr (.inr (.inr (fun k => vs[k]?)))))), (kl, .inr (11, [.int mk, .ref ak, .int (nI ks.length)])), (co, .inl (Y.2.1 4, 6, .inr (.inr (.inr (.inr (fun l => some (ca l)))))))] ++ (KT Y ak ck ks ++ va_pl L f')) H locs := by rw [List.append_nil] at hW; exact hW
        refine W.eq (g2 := F0 m 276 ls [.int (nI (lm g a (b - a)))]) rfl ?_
        have ek : kc = cl (Wg g) (b + 1 - a) a 0 := by rw [← hkc, e, Nat.sub_self]; rfl
        exact hI _ _ _ _ _ _ _ _ _ ⟨f', hf', g, hgg, rfl, by rw [ek]⟩ rfl rfl (Nat.le_of_ble_eq_true rfl) (Nat.le_of_ble_eq_true rfl) hW dX5_ask_276
      · have hle : j ≤ b := Nat.le_of_not_lt (fun h => cq ((nI_ltI (by omega) (by omega)).mpr h))
        have hNW : ∀ p v : Nat, vs[p]? = some v → g (52 + p) = wtA (f' v) := hw
        have c97 : ∀ (e : Nat) (H : Heap) (locs : List Loc) (ls : Array Slot), (he : j ≤ e ∧ e ≤ b) → (hcl : cl (Wg g) (b + 1 - j) j 0 = rl (e - j + 1) + cl (Wg g) (b + 1 - (e + 1)) (e + 1) 0) → (hz0 : e = j ∨ ∀ k : Nat, j ≤ k → k ≤ e → g (52 + k) = 0) → lv_has ls 10 [(5, .int (nI e)), (4, .int (nI j)), (3, bv), (0, .ref rb), (1, .int (nI a)), (2, .int (nI b))] → Wd Dd A s.heap ([(rb, .inr (5, [.ref vl, .ref kl, .ref co, .int ru, .int mo, .int (lk + nI kc), .int (wn + nI (cs (fun l => vs.length + 1 - 2 ^ l) 5)), .int (qu + 1), .int (bu + 1)])), (vl, .inr (11, [.int mv, .ref av, .int (nI vs.length)])), (av, .inl (Y.2.1 2, cv, .inr (.inr (.inr (.inr (fun k => vs[k]?)))))), (kl, .inr (11, [.int mk, .ref ak, .int (nI ks.length)])), (co, .inl (Y.2.1 4, 6, .inr (.inr (.inr (.inr (fun l => some (ca l)))))))] ++ (KT Y ak ck ks ++ va_pl L f')) H locs → W p₀ l e₀ rmX5_ask s m args below meth c₀ H locs (2) (8) Q (F0 m 97 ls []) := by
          intro e H locs ls he hcl hz0 hl hW
          refine lv_iconst (v := 0) hx hb dX5_ask_97 (by decide) ?_
          refine lv_istore (lv' := [(6, .int 0), (5, .int (nI e)), (4, .int (nI j)), (3, bv), (0, .ref rb), (1, .int (nI a)), (2, .int (nI b))]) hx hb dX5_ask_98 hl (by decide) rfl (fun ls hl => ?_)
          refine lv_iconst (v := 1) hx hb dX5_ask_100 (by decide) ?_
          refine lv_istore (lv' := [(7, .int 1), (6, .int 0), (5, .int (nI e)), (4, .int (nI j)), (3, bv), (0, .ref rb), (1, .int (nI a)), (2, .int (nI b))]) hx hb dX5_ask_101 hl (by decide) rfl (fun ls hl => ?_)
          have lpt : ∀ (d : Nat) (t : Nat) (H : Heap) (locs : List Loc) (ls : Array Slot), (ht : 2 ^ t ≤ e - j + 1 ∧ t ≤ 5) → (6 < d + t) → lv_has ls 10 [(7, .int (nI (2 ^ t))), (6, .int (nI t)), (5, .int (nI e)), (4, .int (nI j)), (3, bv), (0, .ref rb), (1, .int (nI a)), (2, .int (nI b))] → Wd Dd A s.heap ([(rb, .inr (5, [.ref vl, .ref kl, .ref co, .int ru, .int mo, .int (lk + nI kc), .int (wn + nI (cs (fun l => vs.length + 1 - 2 ^ l) 5)), .int (qu + 1), .int (bu + 1)])), (vl, .inr (11, [.int mv, .ref av, .int (nI vs.length)])), (av, .inl (Y.2.1 2, cv, .inr (.inr (.inr (.inr (fun k => vs[k]?)))))), (kl, .inr (11, [.int mk, .ref ak, .int (nI ks.length)])), (co, .inl (Y.2.1 4, 6, .inr (.inr (.inr (.inr (fun l => some (ca l)))))))] ++ (KT Y ak ck ks ++ va_pl L f')) H locs → W p₀ l e₀ rmX5_ask s m args below meth c₀ H locs (2) (8) Q (F0 m 103 ls []) := by
            intro d
            induction d with
            | zero => intro t H locs ls ht hfu; exact absurd hfu (by omega)
            | succ d iht =>
              intro t H locs ls ht hfu hl hW
              have hp1 : 2 ^ (t + 1) = 2 * 2 ^ t := by rw [Nat.pow_succ]; omega
              have hp2 : 0 < 2 ^ t := Nat.two_pow_pos t
              refine lv_iconst (v := 2) hx hb dX5_ask_103 (by decide) ?_
              refine lv_iload hx hb dX5_ask_104 (lv_at hl 0 rfl) ?_
              refine lv_imul hx hb dX5_ask_106 ?_
              rw [nI_dbl2]
              refine lv_iload hx hb dX5_ask_107 (lv_at hl 2 rfl) ?_
              refine lv_iload hx hb dX5_ask_109 (lv_at hl 3 rfl) ?_
              refine lv_isub hx hb dX5_ask_111 ?_
              refine lv_iconst (v := 1) hx hb dX5_ask_112 (by decide) ?_
              refine lv_iadd hx hb dX5_ask_113 ?_
              rw [show nI e - nI j + 1 = nI (e - j + 1) from by rw [pk_sub he.1, nI_1]]
              refine lv_icmp_gt (tgt := 129) hx hb dX5_ask_114 (by decide) (fun ct => ?_) (fun ct => ?_)
              · have hr2 : e - j + 1 < 2 * 2 ^ t := (nI_ltI (by omega) (by omega)).mp ct
                have hrl : rl (e - j + 1) = if e - j + 1 = 2 ^ t then 1 else 2 := rl_e ht.1 (by omega) (by omega) (by omega)
                have c247 : ∀ (o1 : Nat) (o2 : Nat) (c2 : Nat) (v3 : Nat) (c3 : Nat) (H : Heap) (locs : List Loc) (ls : Array Slot), (h2 : vs[c2]? = some o2) → (i2 : isL g (e + 1 - 2 ^ t) e c2) → (h3_ : vs[c3]? = some v3) → (i3 : isL g a (j + 2 ^ t - 1) c3) → lv_has ls 10 [(9, .ref o2), (8, .ref o1), (7, .int (nI (2 ^ t))), (6, .int (nI t)), (5, .int (nI e)), (4, .int (nI j)), (3, .ref v3), (0, .ref rb), (1, .int (nI a)), (2, .int (nI b))] → Wd Dd A s.heap ([(rb, .inr (5, [.ref vl, .ref kl, .ref co, .int ru, .int mo, .int (lk + nI (kc + rl (e - j + 1))), .int (wn + nI (cs (fun l => vs.length + 1 - 2 ^ l) 5)), .int (qu + 1), .int (bu + 1)])), (vl, .inr (11, [.int mv, .ref av, .int (nI vs.length)])), (av, .inl (Y.2.1 2, cv, .inr (.inr (.inr (.inr (fun k => vs[k]?)))))), (kl, .inr (11, [.int mk, .ref ak, .int (nI ks.length)])), (co, .inl (Y.2.1 4, 6, .inr (.inr (.inr (.inr (fun l => some (ca l)))))))] ++ (KT Y ak ck ks ++ va_pl L f')) H locs → W p₀ l e₀ rmX5_ask s m args below meth c₀ H locs (2) (8) Q (F0 m 247 ls []) := by
                  intro o1 o2 c2 v3 c3 H locs ls h2 i2 h3_ i3 hl hW
                  refine lv_aload hx hb dX5_ask_247 (lv_at hl 0 rfl) ?_
                  refine gVn_ X hinX7 hW (hvo.at h2) dX5_ask_249 ?_
                  refine lv_aload_n hx hb dX5_ask_252 rfl (lv_at hl 6 rfl) ?_
                  refine gVn_ X hinX7 hW (hvo.at h3_) dX5_ask_253 ?_
                  refine lv_icmp_ge (tgt := 262) hx hb dX5_ask_256 (by decide) (fun cb => ?_) (fun cb => ?_)
                  · refine lv_iload hx hb dX5_ask_262 (lv_at hl 4 rfl) ?_
                    refine lv_iconst (v := 1) hx hb dX5_ask_264 (by decide) ?_
                    refine lv_iadd hx hb dX5_ask_265 ?_
                    rw [nI_1]
                    refine lv_istore (lv' := [(4, .int (nI (e + 1))), (9, .ref o2), (8, .ref o1), (7, .int (nI (2 ^ t))), (6, .int (nI t)), (5, .int (nI e)), (3, .ref v3), (0, .ref rb), (1, .int (nI a)), (2, .int (nI b))]) hx hb dX5_ask_266 hl (by decide) rfl (fun ls hl => ?_)
                    refine lv_goto (tgt := 33) hx hb dX5_ask_268 (by decide) ?_
                    have hl : lv_has ls 10 [(4, .int (nI (e + 1))), (3, .ref v3), (0, .ref rb), (1, .int (nI a)), (2, .int (nI b))] := lv_sub hl [0, 6, 7, 8, 9] rfl
                    exact ih (e + 1) (kc + rl (e - j + 1)) (.ref v3) _ _ _ ⟨by omega, by omega⟩ (by rw [← hkc, hcl, Nat.add_assoc]) (Or.inr ⟨by omega, v3, rfl, by rw [Nat.add_sub_cancel, ← lm_of (isL_le i3 i2 (by omega) (by omega) (by omega) (by rw [hg _ _ h3_, hg _ _ h2]; exact cb)) (by omega)]; exact h3_⟩) (by omega) hl hW
                  · refine lv_aload hx hb dX5_ask_259 (lv_at hl 0 rfl) ?_
                    refine lv_astore_n (lv' := [(3, .ref o2), (9, .ref o2), (8, .ref o1), (7, .int (nI (2 ^ t))), (6, .int (nI t)), (5, .int (nI e)), (4, .int (nI j)), (0, .ref rb), (1, .int (nI a)), (2, .int (nI b))]) hx hb dX5_ask_261 rfl hl (by decide) rfl (fun ls hl => ?_)
                    refine lv_iload hx hb dX5_ask_262 (lv_at hl 5 rfl) ?_
                    refine lv_iconst (v := 1) hx hb dX5_ask_264 (by decide) ?_
                    refine lv_iadd hx hb dX5_ask_265 ?_
                    rw [nI_1]
                    refine lv_istore (lv' := [(4, .int (nI (e + 1))), (3, .ref o2), (9, .ref o2), (8, .ref o1), (7, .int (nI (2 ^ t))), (6, .int (nI t)), (5, .int (nI e)), (0, .ref rb), (1, .int (nI a)), (2, .int (nI b))]) hx hb dX5_ask_266 hl (by decide) rfl (fun ls hl => ?_)
                    refine lv_goto (tgt := 33) hx hb dX5_ask_268 (by decide) ?_
                    have hl : lv_has ls 10 [(4, .int (nI (e + 1))), (3, .ref o2), (0, .ref rb), (1, .int (nI a)), (2, .int (nI b))] := lv_sub hl [0, 1, 7, 8, 9] rfl
                    exact ih (e + 1) (kc + rl (e - j + 1)) (.ref o2) _ _ _ ⟨by omega, by omega⟩ (by rw [← hkc, hcl, Nat.add_assoc]) (Or.inr ⟨by omega, o2, rfl, by rw [Nat.add_sub_cancel, ← lm_of (isL_gt i3 i2 (by omega) (by omega) (by omega) (by rw [hg _ _ h3_, hg _ _ h2]; exact cb)) (by omega)]; exact h2⟩) (by omega) hl hW
                have c228 : ∀ (o1 : Nat) (o2 : Nat) (c1 : Nat) (c2 : Nat) (H : Heap) (locs : List Loc) (ls : Array Slot), (h1_ : vs[c1]? = some o1) → (i1 : isL g j (j + 2 ^ t - 1) c1) → (h2 : vs[c2]? = some o2) → (i2 : isL g (e + 1 - 2 ^ t) e c2) → lv_has ls 10 [(9, .ref o2), (8, .ref o1), (7, .int (nI (2 ^ t))), (6, .int (nI t)), (5, .int (nI e)), (4, .int (nI j)), (3, bv), (0, .ref rb), (1, .int (nI a)), (2, .int (nI b))] → Wd Dd A s.heap ([(rb, .inr (5, [.ref vl, .ref kl, .ref co, .int ru, .int mo, .int (lk + nI (kc + rl (e - j + 1))), .int (wn + nI (cs (fun l => vs.length + 1 - 2 ^ l) 5)), .int (qu + 1), .int (bu + 1)])), (vl, .inr (11, [.int mv, .ref av, .int (nI vs.length)])), (av, .inl (Y.2.1 2, cv, .inr (.inr (.inr (.inr (fun k => vs[k]?)))))), (kl, .inr (11, [.int mk, .ref ak, .int (nI ks.length)])), (co, .inl (Y.2.1 4, 6, .inr (.inr (.inr (.inr (fun l => some (ca l)))))))] ++ (KT Y ak ck ks ++ va_pl L f')) H locs → W p₀ l e₀ rmX5_ask s m args below meth c₀ H locs (2) (8) Q (F0 m 228 ls []) := by
                  intro o1 o2 c1 c2 H locs ls h1_ i1 h2 i2 hl hW
                  obtain ⟨ej, rfl⟩ | ⟨hja, vb, rfl, hvb⟩ := hbv
                  · refine lv_aload_nN hx hb dX5_ask_228 rfl (lv_at hl 6 rfl) ?_
                    refine lv_ifnullN (tgt := 244) hx hb dX5_ask_229 (by decide) ?_
                    refine lv_aload hx hb dX5_ask_244 (lv_at hl 1 rfl) ?_
                    refine lv_astore_n (lv' := [(3, .ref o1), (9, .ref o2), (8, .ref o1), (7, .int (nI (2 ^ t))), (6, .int (nI t)), (5, .int (nI e)), (4, .int (nI j)), (0, .ref rb), (1, .int (nI a)), (2, .int (nI b))]) hx hb dX5_ask_246 rfl hl (by decide) rfl (fun ls hl => ?_)
                    have hl : lv_has ls 10 [(9, .ref o2), (8, .ref o1), (7, .int (nI (2 ^ t))), (6, .int (nI t)), (5, .int (nI e)), (4, .int (nI j)), (3, .ref o1), (0, .ref rb), (1, .int (nI a)), (2, .int (nI b))] := lv_sub hl [1, 2, 3, 4, 5, 6, 0, 7, 8, 9] rfl
                    exact c247 o1 o2 c2 o1 c1 _ _ _ h2 i2 h1_ (ej ▸ i1) hl hW
                  · refine lv_aload_n hx hb dX5_ask_228 rfl (lv_at hl 6 rfl) ?_
                    refine lv_ifnull hx hb dX5_ask_229 ?_
                    refine lv_aload hx hb dX5_ask_232 (lv_at hl 1 rfl) ?_
                    refine gVn_ X hinX7 hW (hvo.at h1_) dX5_ask_234 ?_
                    refine lv_aload_n hx hb dX5_ask_237 rfl (lv_at hl 6 rfl) ?_
                    refine gVn_ X hinX7 hW (hvo.at hvb) dX5_ask_238 ?_
                    have ib : isL g a (j - 1) (lm g a (j - 1 - a)) := lm_to (by omega)
                    refine lv_icmp_ge (tgt := 247) hx hb dX5_ask_241 (by decide) (fun cb => ?_) (fun cb => ?_)
                    · exact c247 o1 o2 c2 vb _ _ _ _ h2 i2 hvb (isL_le ib i1 (by omega) (by omega) (by omega) (by rw [hg _ _ hvb, hg _ _ h1_]; exact cb)) hl hW
                    · refine lv_aload hx hb dX5_ask_244 (lv_at hl 1 rfl) ?_
                      refine lv_astore_n (lv' := [(3, .ref o1), (9, .ref o2), (8, .ref o1), (7, .int (nI (2 ^ t))), (6, .int (nI t)), (5, .int (nI e)), (4, .int (nI j)), (0, .ref rb), (1, .int (nI a)), (2, .int (nI b))]) hx hb dX5_ask_246 rfl hl (by decide) rfl (fun ls hl => ?_)
                      have hl : lv_has ls 10 [(9, .ref o2), (8, .ref o1), (7, .int (nI (2 ^ t))), (6, .int (nI t)), (5, .int (nI e)), (4, .int (nI j)), (3, .ref o1), (0, .ref rb), (1, .int (nI a)), (2, .int (nI b))] := lv_sub hl [1, 2, 3, 4, 5, 6, 0, 7, 8, 9] rfl
                      exact c247 o1 o2 c2 o1 c1 _ _ _ h2 i2 h1_ (isL_gt ib i1 (by omega) (by omega) (by omega) (by rw [hg _ _ hvb, hg _ _ h1_]; exact cb)) hl hW
                have c200 : ∀ (o1 : Nat) (o2 : Nat) (c1 : Nat) (c2 : Nat) (H : Heap) (locs : List Loc) (ls : Array Slot), (h1_ : vs[c1]? = some o1) → (i1 : isL g j (j + 2 ^ t - 1) c1) → (h2 : vs[c2]? = some o2) → (i2 : isL g (e + 1 - 2 ^ t) e c2) → lv_has ls 10 [(8, .ref o1), (7, .int (nI (2 ^ t))), (6, .int (nI t)), (5, .int (nI e)), (4, .int (nI j)), (3, bv), (0, .ref rb), (1, .int (nI a)), (2, .int (nI b))] → Wd Dd A s.heap ([(rb, .inr (5, [.ref vl, .ref kl, .ref co, .int ru, .int mo, .int (lk + nI kc), .int (wn + nI (cs (fun l => vs.length + 1 - 2 ^ l) 5)), .int (qu + 1), .int (bu + 1)])), (vl, .inr (11, [.int mv, .ref av, .int (nI vs.length)])), (av, .inl (Y.2.1 2, cv, .inr (.inr (.inr (.inr (fun k => vs[k]?)))))), (kl, .inr (11, [.int mk, .ref ak, .int (nI ks.length)])), (co, .inl (Y.2.1 4, 6, .inr (.inr (.inr (.inr (fun l => some (ca l)))))))] ++ (KT Y ak ck ks ++ va_pl L f')) H locs → W p₀ l e₀ rmX5_ask s m args below meth c₀ H locs (2) (8) Q (F0 m 200 ls [.ref o2]) := by
                  intro o1 o2 c1 c2 H locs ls h1_ i1 h2 i2 hl hW
                  refine lv_astore (lv' := [(9, .ref o2), (8, .ref o1), (7, .int (nI (2 ^ t))), (6, .int (nI t)), (5, .int (nI e)), (4, .int (nI j)), (3, bv), (0, .ref rb), (1, .int (nI a)), (2, .int (nI b))]) hx hb dX5_ask_200 hl (by decide) rfl (fun ls hl => ?_)
                  refine lv_aload_n hx hb dX5_ask_202 rfl (lv_at hl 7 rfl) ?_
                  refine lv_dup hx hb dX5_ask_203 rfl ?_
                  refine g_ X hinX5 hW 0 rfl rfl 5 (by decide) 6 rfl rfl rfl dX5_ask_204 ?_
                  refine lv_iload hx hb dX5_ask_207 (lv_at hl 2 rfl) ?_
                  refine lv_iload hx hb dX5_ask_209 (lv_at hl 4 rfl) ?_
                  refine lv_iload hx hb dX5_ask_211 (lv_at hl 5 rfl) ?_
                  refine lv_isub hx hb dX5_ask_213 ?_
                  refine lv_iconst (v := 1) hx hb dX5_ask_214 (by decide) ?_
                  refine lv_iadd hx hb dX5_ask_215 ?_
                  rw [show nI e - nI j + 1 = nI (e - j + 1) from by rw [pk_sub he.1, nI_1]]
                  refine lv_icmp_ne (tgt := 223) hx hb dX5_ask_216 (by decide) (fun ce => ?_) (fun ce => ?_)
                  · refine lv_iconst (v := 2) hx hb dX5_ask_223 (by decide) ?_
                    refine lv_iadd hx hb dX5_ask_224 ?_
                    rw [wn_2]
                    refine p_ (ty := .int) X hinX5 tyX5 tyX5_ok nmX5 hW 0 rfl rfl 5 (by decide) 6 rfl rfl rfl (by decide +kernel) rfl rfl (Nat.le_of_ble_eq_true rfl) dX5_ask_225 (ws' := [(rb, .inr (5, [.ref vl, .ref kl, .ref co, .int ru, .int mo, .int (lk + nI (kc + 2)), .int (wn + nI (cs (fun l => vs.length + 1 - 2 ^ l) 5)), .int (qu + 1), .int (bu + 1)])), (vl, .inr (11, [.int mv, .ref av, .int (nI vs.length)])), (av, .inl (Y.2.1 2, cv, .inr (.inr (.inr (.inr (fun k => vs[k]?)))))), (kl, .inr (11, [.int mk, .ref ak, .int (nI ks.length)])), (co, .inl (Y.2.1 4, 6, .inr (.inr (.inr (.inr (fun l => some (ca l)))))))] ++ (KT Y ak ck ks ++ va_pl L f')) rfl (fun H locs hW => ?_)
                    rw [show kc + 2 = kc + rl (e - j + 1) from by rw [hrl, if_neg (fun q => ce (congrArg nI q.symm))]] at hW
                    exact c228 o1 o2 c1 c2 _ _ _ h1_ i1 h2 i2 hl hW
                  · refine lv_iconst (v := 1) hx hb dX5_ask_219 (by decide) ?_
                    refine lv_goto (tgt := 224) hx hb dX5_ask_220 (by decide) ?_
                    refine lv_iadd hx hb dX5_ask_224 ?_
                    rw [wn_1]
                    refine p_ (ty := .int) X hinX5 tyX5 tyX5_ok nmX5 hW 0 rfl rfl 5 (by decide) 6 rfl rfl rfl (by decide +kernel) rfl rfl (Nat.le_of_ble_eq_true rfl) dX5_ask_225 (ws' := [(rb, .inr (5, [.ref vl, .ref kl, .ref co, .int ru, .int mo, .int (lk + nI (kc + 1)), .int (wn + nI (cs (fun l => vs.length + 1 - 2 ^ l) 5)), .int (qu + 1), .int (bu + 1)])), (vl, .inr (11, [.int mv, .ref av, .int (nI vs.length)])), (av, .inl (Y.2.1 2, cv, .inr (.inr (.inr (.inr (fun k => vs[k]?)))))), (kl, .inr (11, [.int mk, .ref ak, .int (nI ks.length)])), (co, .inl (Y.2.1 4, 6, .inr (.inr (.inr (.inr (fun l => some (ca l)))))))] ++ (KT Y ak ck ks ++ va_pl L f')) rfl (fun H locs hW => ?_)
                    rw [show kc + 1 = kc + rl (e - j + 1) from by rw [hrl, if_pos ((nI_eq (by omega) (by omega)).mp ce).symm]] at hW
                    exact c228 o1 o2 c1 c2 _ _ _ h1_ i1 h2 i2 hl hW
                have c161 : ∀ (o1 : Nat) (c1 : Nat) (H : Heap) (locs : List Loc) (ls : Array Slot), (h1_ : vs[c1]? = some o1) → (i1 : isL g j (j + 2 ^ t - 1) c1) → lv_has ls 10 [(7, .int (nI (2 ^ t))), (6, .int (nI t)), (5, .int (nI e)), (4, .int (nI j)), (3, bv), (0, .ref rb), (1, .int (nI a)), (2, .int (nI b))] → Wd Dd A s.heap ([(rb, .inr (5, [.ref vl, .ref kl, .ref co, .int ru, .int mo, .int (lk + nI kc), .int (wn + nI (cs (fun l => vs.length + 1 - 2 ^ l) 5)), .int (qu + 1), .int (bu + 1)])), (vl, .inr (11, [.int mv, .ref av, .int (nI vs.length)])), (av, .inl (Y.2.1 2, cv, .inr (.inr (.inr (.inr (fun k => vs[k]?)))))), (kl, .inr (11, [.int mk, .ref ak, .int (nI ks.length)])), (co, .inl (Y.2.1 4, 6, .inr (.inr (.inr (.inr (fun l => some (ca l)))))))] ++ (KT Y ak ck ks ++ va_pl L f')) H locs → W p₀ l e₀ rmX5_ask s m args below meth c₀ H locs (2) (8) Q (F0 m 161 ls [.ref o1]) := by
                  intro o1 c1 H locs ls h1_ i1 hl hW
                  refine lv_astore (lv' := [(8, .ref o1), (7, .int (nI (2 ^ t))), (6, .int (nI t)), (5, .int (nI e)), (4, .int (nI j)), (3, bv), (0, .ref rb), (1, .int (nI a)), (2, .int (nI b))]) hx hb dX5_ask_161 hl (by decide) rfl (fun ls hl => ?_)
                  refine lv_iload hx hb dX5_ask_163 (lv_at hl 2 rfl) ?_
                  refine lv_if_ne (tgt := 185) hx hb dX5_ask_165 (by decide) (fun cz => ?_) (fun cz => ?_)
                  · have ht0 : 1 ≤ t := Nat.one_le_iff_ne_zero.mpr (fun q => cz (by rw [q]; rfl))
                    have hzz : ∀ k : Nat, j ≤ k → k ≤ e → g (52 + k) = 0 := hz0.resolve_left (fun q => by have : 2 ^ 1 ≤ 2 ^ t := Nat.pow_le_pow_right (by decide) ht0; omega)
                    refine lv_aload_n hx hb dX5_ask_185 rfl (lv_at hl 6 rfl) ?_
                    refine g_ X hinX5 hW 0 rfl rfl 2 (by decide) 5 rfl rfl rfl dX5_ask_186 ?_
                    refine lv_iload hx hb dX5_ask_189 (lv_at hl 2 rfl) ?_
                    refine aO_ X hW 4 rfl (vp_in_nI (by omega) (by decide)) dX5_ask_191 ?_
                    rw [nI_clamp (by omega)]
                    refine W.eq (g2 := F0 m 192 ls [.ref (ca t)]) rfl ?_
                    refine lv_iload hx hb dX5_ask_192 (lv_at hl 3 rfl) ?_
                    refine lv_iload hx hb dX5_ask_194 (lv_at hl 1 rfl) ?_
                    refine lv_isub hx hb dX5_ask_196 ?_
                    refine lv_iconst (v := 1) hx hb dX5_ask_197 (by decide) ?_
                    refine lv_iadd hx hb dX5_ask_198 ?_
                    rw [show nI e - nI (2 ^ t) + 1 = nI (e + 1 - 2 ^ t) from by rw [sub_p1]; exact pk_sub (by omega)]
                    obtain ⟨o2, hv2⟩ := vs_at (vs := vs) (p := lm g (e + 1 - 2 ^ t) (2 ^ t - 1)) (lm_n (by omega))
                    have hv2c : clA (f' (ca t)) (e + 1 - 2 ^ t) = some o2 := (hH t (e + 1 - 2 ^ t) ht0 ht.2 (by omega) (fun k q1 q2 => hzz k (by omega) (by omega))).trans hv2
                    refine aC_ X hW (hO.1 t (by omega)) (vp_in_nI (by omega) (by decide)) dX5_ask_199 ?_
                    rw [nI_clamp (by omega), hv2c]
                    refine W.eq (g2 := F0 m 200 ls [.ref o2]) rfl ?_
                    have i2 : isL g (e + 1 - 2 ^ t) e (lm g (e + 1 - 2 ^ t) (2 ^ t - 1)) := by have q := isL_p (g := g) (p := e + 1 - 2 ^ t) (t := t); rw [show e + 1 - 2 ^ t + 2 ^ t - 1 = e by omega] at q; exact q
                    exact c200 o1 o2 c1 _ _ _ _ h1_ i1 hv2 i2 hl hW
                  · have ht0 : t = 0 := by have := (nI_eq (b := 0) (by omega) (by decide)).mp cz; exact this
                    obtain ⟨o2, hv2⟩ := vs_at (vs := vs) (p := e) (by omega)
                    refine lv_aload_n hx hb dX5_ask_168 rfl (lv_at hl 6 rfl) ?_
                    refine g_ X hinX5 hW 0 rfl rfl 0 (by decide) 3 rfl rfl rfl dX5_ask_169 ?_
                    refine lv_iload hx hb dX5_ask_172 (lv_at hl 3 rfl) ?_
                    refine rF_ (As := [.int (nI e)]) (rest := []) (wc := [(vl, .inr (11, [.int mv, .ref av, .int (nI vs.length)])), (av, .inl (Y.2.1 2, cv, .inr (.inr (.inr (.inr (fun k => vs[k]?))))))]) (w9 := [(rb, .inr (5, [.ref vl, .ref kl, .ref co, .int ru, .int mo, .int (lk + nI kc), .int (wn + nI (cs (fun l => vs.length + 1 - 2 ^ l) 5)), .int (qu + 1), .int (bu + 1)])), (kl, .inr (11, [.int mk, .ref ak, .int (nI ks.length)])), (co, .inl (Y.2.1 4, 6, .inr (.inr (.inr (.inr (fun l => some (ca l)))))))] ++ (KT Y ak ck ks ++ va_pl L f')) X 1 (kJx4a65c_get_915e3 l Dd Y vl av cv vs.length e mv (fun k => vs[k]?) (by omega) hC.1 (by omega)) gX5_ask_Jx4a65c_get_915e3_f30Jx4a65c rfl rfl rfl (by decide +kernel) (by decide +kernel) ⟨(Nat.le_of_ble_eq_true rfl), (Nat.le_of_ble_eq_true rfl)⟩ hW (pmq27 _ _ _ _ _ _) 0 11 rfl rfl rfl rfl hl.1 rfl (Nat.le_of_ble_eq_true rfl) dX5_ask_174 ⟨(Nat.le_of_ble_eq_true rfl), (Nat.le_of_ble_eq_true rfl)⟩ (fun rv wq H locs hp hW => ?_)
                    obtain ⟨rfl, rfl⟩ := hp
                    have hW : Wd Dd A s.heap ([(vl, .inr (11, [.int mv, .ref av, .int (nI vs.length)])), (av, .inl (Y.2.1 2, cv, .inr (.inr (.inr (.inr (fun k => vs[k]?)))))), (rb, .inr (5, [.ref vl, .ref kl, .ref co, .int ru, .int mo, .int (lk + nI kc), .int (wn + nI (cs (fun l => vs.length + 1 - 2 ^ l) 5)), .int (qu + 1), .int (bu + 1)])), (kl, .inr (11, [.int mk, .ref ak, .int (nI ks.length)])), (co, .inl (Y.2.1 4, 6, .inr (.inr (.inr (.inr (fun l => some (ca l)))))))] ++ (KT Y ak ck ks ++ va_pl L f')) H locs := hW
                    have hW : Wd Dd A s.heap ([(rb, .inr (5, [.ref vl, .ref kl, .ref co, .int ru, .int mo, .int (lk + nI kc), .int (wn + nI (cs (fun l => vs.length + 1 - 2 ^ l) 5)), .int (qu + 1), .int (bu + 1)])), (vl, .inr (11, [.int mv, .ref av, .int (nI vs.length)])), (av, .inl (Y.2.1 2, cv, .inr (.inr (.inr (.inr (fun k => vs[k]?)))))), (kl, .inr (11, [.int mk, .ref ak, .int (nI ks.length)])), (co, .inl (Y.2.1 4, 6, .inr (.inr (.inr (.inr (fun l => some (ca l)))))))] ++ (KT Y ak ck ks ++ va_pl L f')) H locs := hW.permA (pmq28 _ _ _ _ _ _)
                    refine W.eq (g2 := F0 m 179 ls [va_rf vs[e]?]) rfl ?_
                    rw [hv2]
                    refine W.eq (g2 := F0 m 179 ls [.ref o2]) rfl ?_
                    refine vCa_ X hW (hvo.at hv2) (i := 4) rfl dX5_ask_179 ?_
                    refine lv_goto (tgt := 200) hx hb dX5_ask_182 (by decide) ?_
                    have i2 : isL g (e + 1 - 2 ^ t) e e := by rw [ht0]; exact isL_1 g e
                    exact c200 o1 o2 c1 _ _ _ _ h1_ i1 hv2 i2 hl hW
                refine lv_iload hx hb dX5_ask_129 (lv_at hl 1 rfl) ?_
                refine lv_if_ne (tgt := 151) hx hb dX5_ask_131 (by decide) (fun cz => ?_) (fun cz => ?_)
                · have ht0 : 1 ≤ t := Nat.one_le_iff_ne_zero.mpr (fun q => cz (by rw [q]; rfl))
                  have hzz : ∀ k : Nat, j ≤ k → k ≤ e → g (52 + k) = 0 := hz0.resolve_left (fun q => by have : 2 ^ 1 ≤ 2 ^ t := Nat.pow_le_pow_right (by decide) ht0; omega)
                  refine lv_aload_n hx hb dX5_ask_151 rfl (lv_at hl 5 rfl) ?_
                  refine g_ X hinX5 hW 0 rfl rfl 2 (by decide) 5 rfl rfl rfl dX5_ask_152 ?_
                  refine lv_iload hx hb dX5_ask_155 (lv_at hl 1 rfl) ?_
                  refine aO_ X hW 4 rfl (vp_in_nI (by omega) (by decide)) dX5_ask_157 ?_
                  rw [nI_clamp (by omega)]
                  refine W.eq (g2 := F0 m 158 ls [.ref (ca t)]) rfl ?_
                  refine lv_iload hx hb dX5_ask_158 (lv_at hl 3 rfl) ?_
                  obtain ⟨o1, hv1⟩ := vs_at (vs := vs) (p := lm g j (2 ^ t - 1)) (lm_n (by omega))
                  have hv1c : clA (f' (ca t)) j = some o1 := (hH t j ht0 ht.2 (by omega) (fun k q1 q2 => hzz k (by omega) (by omega))).trans hv1
                  refine aC_ X hW (hO.1 t (by omega)) (vp_in_nI (by omega) (by decide)) dX5_ask_160 ?_
                  rw [nI_clamp (by omega), hv1c]
                  refine W.eq (g2 := F0 m 161 ls [.ref o1]) rfl ?_
                  exact c161 o1 _ _ _ _ hv1 isL_p hl hW
                · have ht0 : t = 0 := by have := (nI_eq (b := 0) (by omega) (by decide)).mp cz; exact this
                  obtain ⟨o1, hv1⟩ := vs_at (vs := vs) (p := j) (by omega)
                  refine lv_aload_n hx hb dX5_ask_134 rfl (lv_at hl 5 rfl) ?_
                  refine g_ X hinX5 hW 0 rfl rfl 0 (by decide) 3 rfl rfl rfl dX5_ask_135 ?_
                  refine lv_iload hx hb dX5_ask_138 (lv_at hl 3 rfl) ?_
                  refine rF_ (As := [.int (nI j)]) (rest := []) (wc := [(vl, .inr (11, [.int mv, .ref av, .int (nI vs.length)])), (av, .inl (Y.2.1 2, cv, .inr (.inr (.inr (.inr (fun k => vs[k]?))))))]) (w9 := [(rb, .inr (5, [.ref vl, .ref kl, .ref co, .int ru, .int mo, .int (lk + nI kc), .int (wn + nI (cs (fun l => vs.length + 1 - 2 ^ l) 5)), .int (qu + 1), .int (bu + 1)])), (kl, .inr (11, [.int mk, .ref ak, .int (nI ks.length)])), (co, .inl (Y.2.1 4, 6, .inr (.inr (.inr (.inr (fun l => some (ca l)))))))] ++ (KT Y ak ck ks ++ va_pl L f')) X 1 (kJx4a65c_get_915e3 l Dd Y vl av cv vs.length j mv (fun k => vs[k]?) (by omega) hC.1 (by omega)) gX5_ask_Jx4a65c_get_915e3_f30Jx4a65c rfl rfl rfl (by decide +kernel) (by decide +kernel) ⟨(Nat.le_of_ble_eq_true rfl), (Nat.le_of_ble_eq_true rfl)⟩ hW (pmq27 _ _ _ _ _ _) 0 11 rfl rfl rfl rfl hl.1 rfl (Nat.le_of_ble_eq_true rfl) dX5_ask_140 ⟨(Nat.le_of_ble_eq_true rfl), (Nat.le_of_ble_eq_true rfl)⟩ (fun rv wq H locs hp hW => ?_)
                  obtain ⟨rfl, rfl⟩ := hp
                  have hW : Wd Dd A s.heap ([(vl, .inr (11, [.int mv, .ref av, .int (nI vs.length)])), (av, .inl (Y.2.1 2, cv, .inr (.inr (.inr (.inr (fun k => vs[k]?)))))), (rb, .inr (5, [.ref vl, .ref kl, .ref co, .int ru, .int mo, .int (lk + nI kc), .int (wn + nI (cs (fun l => vs.length + 1 - 2 ^ l) 5)), .int (qu + 1), .int (bu + 1)])), (kl, .inr (11, [.int mk, .ref ak, .int (nI ks.length)])), (co, .inl (Y.2.1 4, 6, .inr (.inr (.inr (.inr (fun l => some (ca l)))))))] ++ (KT Y ak ck ks ++ va_pl L f')) H locs := hW
                  have hW : Wd Dd A s.heap ([(rb, .inr (5, [.ref vl, .ref kl, .ref co, .int ru, .int mo, .int (lk + nI kc), .int (wn + nI (cs (fun l => vs.length + 1 - 2 ^ l) 5)), .int (qu + 1), .int (bu + 1)])), (vl, .inr (11, [.int mv, .ref av, .int (nI vs.length)])), (av, .inl (Y.2.1 2, cv, .inr (.inr (.inr (.inr (fun k => vs[k]?)))))), (kl, .inr (11, [.int mk, .ref ak, .int (nI ks.length)])), (co, .inl (Y.2.1 4, 6, .inr (.inr (.inr (.inr (fun l => some (ca l)))))))] ++ (KT Y ak ck ks ++ va_pl L f')) H locs := hW.permA (pmq28 _ _ _ _ _ _)
                  refine W.eq (g2 := F0 m 145 ls [va_rf vs[j]?]) rfl ?_
                  rw [hv1]
                  refine W.eq (g2 := F0 m 145 ls [.ref o1]) rfl ?_
                  refine vCa_ X hW (hvo.at hv1) (i := 4) rfl dX5_ask_145 ?_
                  refine lv_goto (tgt := 161) hx hb dX5_ask_148 (by decide) ?_
                  exact c161 o1 _ _ _ _ hv1 (by rw [ht0]; exact isL_1 g j) hl hW
              · have hr : 2 * 2 ^ t ≤ e - j + 1 := Nat.le_of_not_lt (fun h => ct ((nI_ltI (by omega) (by omega)).mpr h))
                refine lv_iload hx hb dX5_ask_117 (lv_at hl 0 rfl) ?_
                refine lv_iconst (v := 2) hx hb dX5_ask_119 (by decide) ?_
                refine lv_imul hx hb dX5_ask_120 ?_
                rw [nI_dbl, Nat.mul_comm, ← hp1]
                refine lv_istore (lv' := [(7, .int (nI (2 ^ (t + 1)))), (6, .int (nI t)), (5, .int (nI e)), (4, .int (nI j)), (3, bv), (0, .ref rb), (1, .int (nI a)), (2, .int (nI b))]) hx hb dX5_ask_121 hl (by decide) rfl (fun ls hl => ?_)
                refine lv_iinc (v := (nI t) + 1) (lv' := [(6, .int ((nI t) + 1)), (7, .int (nI (2 ^ (t + 1)))), (5, .int (nI e)), (4, .int (nI j)), (3, bv), (0, .ref rb), (1, .int (nI a)), (2, .int (nI b))]) hx hb dX5_ask_123 hl (k := 1) rfl rfl (by decide) rfl (fun ls hl => ?_)
                rw [nI_1] at hl
                refine lv_goto (tgt := 103) hx hb dX5_ask_126 (by decide) ?_
                have hl : lv_has ls 10 [(7, .int (nI (2 ^ (t + 1)))), (6, .int (nI (t + 1))), (5, .int (nI e)), (4, .int (nI j)), (3, bv), (0, .ref rb), (1, .int (nI a)), (2, .int (nI b))] := lv_sub hl [1, 0, 2, 3, 4, 5, 6, 7] rfl
                exact iht (t + 1) _ _ _ ⟨by omega, by have := pw_5 (l := t + 1) (n := 40) (by omega) (Nat.le_refl _); omega⟩ (by omega) hl hW
          exact lpt 7 0 _ _ _ ⟨by show 1 ≤ _; omega, by decide⟩ (by decide) hl hW
        obtain ⟨v0, hv0⟩ := vs_at (vs := vs) (p := j) (by omega)
        refine lv_iload hx hb dX5_ask_39 (lv_at hl 0 rfl) ?_
        refine lv_istore (lv' := [(5, .int (nI j)), (4, .int (nI j)), (3, bv), (0, .ref rb), (1, .int (nI a)), (2, .int (nI b))]) hx hb dX5_ask_41 hl (by decide) rfl (fun ls hl => ?_)
        refine lv_aload_n hx hb dX5_ask_43 rfl (lv_at hl 3 rfl) ?_
        refine g_ X hinX5 hW 0 rfl rfl 0 (by decide) 3 rfl rfl rfl dX5_ask_44 ?_
        refine lv_iload hx hb dX5_ask_47 (lv_at hl 1 rfl) ?_
        refine rF_ (As := [.int (nI j)]) (rest := []) (wc := [(vl, .inr (11, [.int mv, .ref av, .int (nI vs.length)])), (av, .inl (Y.2.1 2, cv, .inr (.inr (.inr (.inr (fun k => vs[k]?))))))]) (w9 := [(rb, .inr (5, [.ref vl, .ref kl, .ref co, .int ru, .int mo, .int (lk + nI kc), .int (wn + nI (cs (fun l => vs.length + 1 - 2 ^ l) 5)), .int (qu + 1), .int (bu + 1)])), (kl, .inr (11, [.int mk, .ref ak, .int (nI ks.length)])), (co, .inl (Y.2.1 4, 6, .inr (.inr (.inr (.inr (fun l => some (ca l)))))))] ++ (KT Y ak ck ks ++ va_pl L f')) X 1 (kJx4a65c_get_915e3 l Dd Y vl av cv vs.length j mv (fun k => vs[k]?) (by omega) hC.1 (by omega)) gX5_ask_Jx4a65c_get_915e3_f30Jx4a65c rfl rfl rfl (by decide +kernel) (by decide +kernel) ⟨(Nat.le_of_ble_eq_true rfl), (Nat.le_of_ble_eq_true rfl)⟩ hW (pmq27 _ _ _ _ _ _) 0 11 rfl rfl rfl rfl hl.1 rfl (Nat.le_of_ble_eq_true rfl) dX5_ask_49 ⟨(Nat.le_of_ble_eq_true rfl), (Nat.le_of_ble_eq_true rfl)⟩ (fun rv wq H locs hp hW => ?_)
        obtain ⟨rfl, rfl⟩ := hp
        have hW : Wd Dd A s.heap ([(vl, .inr (11, [.int mv, .ref av, .int (nI vs.length)])), (av, .inl (Y.2.1 2, cv, .inr (.inr (.inr (.inr (fun k => vs[k]?)))))), (rb, .inr (5, [.ref vl, .ref kl, .ref co, .int ru, .int mo, .int (lk + nI kc), .int (wn + nI (cs (fun l => vs.length + 1 - 2 ^ l) 5)), .int (qu + 1), .int (bu + 1)])), (kl, .inr (11, [.int mk, .ref ak, .int (nI ks.length)])), (co, .inl (Y.2.1 4, 6, .inr (.inr (.inr (.inr (fun l => some (ca l)))))))] ++ (KT Y ak ck ks ++ va_pl L f')) H locs := hW
        have hW : Wd Dd A s.heap ([(rb, .inr (5, [.ref vl, .ref kl, .ref co, .int ru, .int mo, .int (lk + nI kc), .int (wn + nI (cs (fun l => vs.length + 1 - 2 ^ l) 5)), .int (qu + 1), .int (bu + 1)])), (vl, .inr (11, [.int mv, .ref av, .int (nI vs.length)])), (av, .inl (Y.2.1 2, cv, .inr (.inr (.inr (.inr (fun k => vs[k]?)))))), (kl, .inr (11, [.int mk, .ref ak, .int (nI ks.length)])), (co, .inl (Y.2.1 4, 6, .inr (.inr (.inr (.inr (fun l => some (ca l)))))))] ++ (KT Y ak ck ks ++ va_pl L f')) H locs := hW.permA (pmq28 _ _ _ _ _ _)
        refine W.eq (g2 := F0 m 54 ls [va_rf vs[j]?]) rfl ?_
        rw [hv0]
        refine W.eq (g2 := F0 m 54 ls [.ref v0]) rfl ?_
        refine vCa_ X hW (hvo.at hv0) (i := 4) rfl dX5_ask_54 ?_
        refine gVw_ X hinX7 hW (hvo.at hv0) dX5_ask_57 ?_
        refine lv_if_ne (tgt := 97) hx hb dX5_ask_60 (by decide) (fun cw => ?_) (fun cw => ?_)
        · have hw1 : g (52 + j) = 1 := (hw j v0 hv0).trans ((hvo.at hv0).2.2.resolve_left cw)
          exact c97 j _ _ _ ⟨Nat.le_refl _, hle⟩ (by rw [show b + 1 - j = (b - j) + 1 by omega, cl, if_pos (Wg_1 hw1), Nat.sub_self, show b + 1 - (j + 1) = b - j by omega]; rfl) (Or.inl rfl) hl hW
        · have hw1 : g (52 + j) = 0 := (hw j v0 hv0).trans cw
          have lpe : ∀ (d : Nat) (e : Nat) (H : Heap) (locs : List Loc) (ls : Array Slot), (he : j ≤ e ∧ e ≤ b) → (hz : ∀ k : Nat, j ≤ k → k ≤ e → g (52 + k) = 0) → (b < d + e) → lv_has ls 10 [(5, .int (nI e)), (4, .int (nI j)), (3, bv), (0, .ref rb), (1, .int (nI a)), (2, .int (nI b))] → Wd Dd A s.heap ([(rb, .inr (5, [.ref vl, .ref kl, .ref co, .int ru, .int mo, .int (lk + nI kc), .int (wn + nI (cs (fun l => vs.length + 1 - 2 ^ l) 5)), .int (qu + 1), .int (bu + 1)])), (vl, .inr (11, [.int mv, .ref av, .int (nI vs.length)])), (av, .inl (Y.2.1 2, cv, .inr (.inr (.inr (.inr (fun k => vs[k]?)))))), (kl, .inr (11, [.int mk, .ref ak, .int (nI ks.length)])), (co, .inl (Y.2.1 4, 6, .inr (.inr (.inr (.inr (fun l => some (ca l)))))))] ++ (KT Y ak ck ks ++ va_pl L f')) H locs → W p₀ l e₀ rmX5_ask s m args below meth c₀ H locs (2) (8) Q (F0 m 63 ls []) := by
            intro d
            induction d with
            | zero => intro e H locs ls he hz hfu; exact absurd hfu (by omega)
            | succ d ihe =>
              intro e H locs ls he hz hfu hl hW
              have hcl0 : (e = b ∨ Wg g (e + 1) = true) → cl (Wg g) (b + 1 - j) j 0 = rl (e - j + 1) + cl (Wg g) (b + 1 - (e + 1)) (e + 1) 0 := fun q => by rw [show b + 1 - j = (e - j + 1) + (b + 1 - (e + 1)) by omega, cl_run _ _ _ _ (fun k q1 q2 => Wg_0 (hz k q1 (by omega))), show j + (e - j + 1) = e + 1 by omega, Nat.zero_add]; exact cl_w (q.imp (fun z => by omega) id)
              refine lv_iload hx hb dX5_ask_63 (lv_at hl 0 rfl) ?_
              refine lv_iload_n hx hb dX5_ask_65 rfl (lv_at hl 5 rfl) ?_
              refine lv_icmp_ge (tgt := 97) hx hb dX5_ask_66 (by decide) (fun ce => ?_) (fun ce => ?_)
              · have eb : e = b := by have := (nI_leI (by omega) (by omega)).mp ce; omega
                exact c97 e _ _ _ he (hcl0 (Or.inl eb)) (Or.inr hz) hl hW
              · have elt : e < b := Nat.lt_of_not_le (fun h => ce ((nI_leI (by omega) (by omega)).mpr h))
                obtain ⟨v1, hv1⟩ := vs_at (vs := vs) (p := e + 1) (by omega)
                refine lv_aload_n hx hb dX5_ask_69 rfl (lv_at hl 3 rfl) ?_
                refine g_ X hinX5 hW 0 rfl rfl 0 (by decide) 3 rfl rfl rfl dX5_ask_70 ?_
                refine lv_iload hx hb dX5_ask_73 (lv_at hl 0 rfl) ?_
                refine lv_iconst (v := 1) hx hb dX5_ask_75 (by decide) ?_
                refine lv_iadd hx hb dX5_ask_76 ?_
                rw [nI_1]
                refine rF_ (As := [.int (nI (e + 1))]) (rest := []) (wc := [(vl, .inr (11, [.int mv, .ref av, .int (nI vs.length)])), (av, .inl (Y.2.1 2, cv, .inr (.inr (.inr (.inr (fun k => vs[k]?))))))]) (w9 := [(rb, .inr (5, [.ref vl, .ref kl, .ref co, .int ru, .int mo, .int (lk + nI kc), .int (wn + nI (cs (fun l => vs.length + 1 - 2 ^ l) 5)), .int (qu + 1), .int (bu + 1)])), (kl, .inr (11, [.int mk, .ref ak, .int (nI ks.length)])), (co, .inl (Y.2.1 4, 6, .inr (.inr (.inr (.inr (fun l => some (ca l)))))))] ++ (KT Y ak ck ks ++ va_pl L f')) X 1 (kJx4a65c_get_915e3 l Dd Y vl av cv vs.length (e + 1) mv (fun k => vs[k]?) (by omega) hC.1 (by omega)) gX5_ask_Jx4a65c_get_915e3_f30Jx4a65c rfl rfl rfl (by decide +kernel) (by decide +kernel) ⟨(Nat.le_of_ble_eq_true rfl), (Nat.le_of_ble_eq_true rfl)⟩ hW (pmq27 _ _ _ _ _ _) 0 11 rfl rfl rfl rfl hl.1 rfl (Nat.le_of_ble_eq_true rfl) dX5_ask_77 ⟨(Nat.le_of_ble_eq_true rfl), (Nat.le_of_ble_eq_true rfl)⟩ (fun rv wq H locs hp hW => ?_)
                obtain ⟨rfl, rfl⟩ := hp
                have hW : Wd Dd A s.heap ([(vl, .inr (11, [.int mv, .ref av, .int (nI vs.length)])), (av, .inl (Y.2.1 2, cv, .inr (.inr (.inr (.inr (fun k => vs[k]?)))))), (rb, .inr (5, [.ref vl, .ref kl, .ref co, .int ru, .int mo, .int (lk + nI kc), .int (wn + nI (cs (fun l => vs.length + 1 - 2 ^ l) 5)), .int (qu + 1), .int (bu + 1)])), (kl, .inr (11, [.int mk, .ref ak, .int (nI ks.length)])), (co, .inl (Y.2.1 4, 6, .inr (.inr (.inr (.inr (fun l => some (ca l)))))))] ++ (KT Y ak ck ks ++ va_pl L f')) H locs := hW
                have hW : Wd Dd A s.heap ([(rb, .inr (5, [.ref vl, .ref kl, .ref co, .int ru, .int mo, .int (lk + nI kc), .int (wn + nI (cs (fun l => vs.length + 1 - 2 ^ l) 5)), .int (qu + 1), .int (bu + 1)])), (vl, .inr (11, [.int mv, .ref av, .int (nI vs.length)])), (av, .inl (Y.2.1 2, cv, .inr (.inr (.inr (.inr (fun k => vs[k]?)))))), (kl, .inr (11, [.int mk, .ref ak, .int (nI ks.length)])), (co, .inl (Y.2.1 4, 6, .inr (.inr (.inr (.inr (fun l => some (ca l)))))))] ++ (KT Y ak ck ks ++ va_pl L f')) H locs := hW.permA (pmq28 _ _ _ _ _ _)
                refine W.eq (g2 := F0 m 82 ls [va_rf vs[(e + 1)]?]) rfl ?_
                rw [hv1]
                refine W.eq (g2 := F0 m 82 ls [.ref v1]) rfl ?_
                refine vCa_ X hW (hvo.at hv1) (i := 4) rfl dX5_ask_82 ?_
                refine gVw_ X hinX7 hW (hvo.at hv1) dX5_ask_85 ?_
                refine lv_if_ne (tgt := 97) hx hb dX5_ask_88 (by decide) (fun cf => ?_) (fun cf => ?_)
                · exact c97 e _ _ _ he (hcl0 (Or.inr (Wg_1 ((hw (e + 1) v1 hv1).trans ((hvo.at hv1).2.2.resolve_left cf))))) (Or.inr hz) hl hW
                · refine lv_iinc (v := (nI e) + 1) (lv' := [(5, .int ((nI e) + 1)), (4, .int (nI j)), (3, bv), (0, .ref rb), (1, .int (nI a)), (2, .int (nI b))]) hx hb dX5_ask_91 hl (k := 0) rfl rfl (by decide) rfl (fun ls hl => ?_)
                  rw [nI_1] at hl
                  refine lv_goto (tgt := 63) hx hb dX5_ask_94 (by decide) ?_
                  exact ihe (e + 1) _ _ _ ⟨by omega, by omega⟩ (fun k q1 q2 => by rcases Nat.lt_or_ge k (e + 1) with q | q; exact hz k q1 (by omega); rw [show k = e + 1 by omega]; exact (hw (e + 1) v1 hv1).trans cf) (by omega) hl hW
          exact lpe (b + 1) j _ _ _ ⟨Nat.le_refl _, hle⟩ (fun k q1 q2 => by rw [show k = j by omega]; exact hw1) (by omega) hl hW
  exact lpo (b + 2) a 0 .null _ _ _ ⟨Nat.le_refl _, by omega⟩ (Nat.zero_add _) (Or.inl ⟨rfl, rfl⟩) (by omega) hl (by rw [show lk + nI 0 = lk from Int32.add_zero lk]; exact hW)
