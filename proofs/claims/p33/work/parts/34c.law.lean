/-! the law's loop over the draws -/
section LAWL
variable {p₀ : Program} {l : Launch} {e₀ : Env} {s : State} {m : MethodId} {args : Array Value} {below : List Frame} {meth : Method} {c₀ : Code} {Q : State → Prop}
variable {Dd : va_G} {Y : yT} {A : Nat → Prop}
set_option maxRecDepth 100000 in
set_option maxHeartbeats 4000000 in
theorem law_loop (X : cx p₀ s m args c₀ cL_law 13 wsL_law RL Dd Y A) (hst : l.stackTraces = false) {bs Ls : Nat} {xs : Nat → Int32} (hX : va_X bs Ls xs s s.heap) (hbl : bs < s.heap.size) (hbA : ¬ A bs) (hLs : Ls ≤ 260) {rb vl kl co : Nat} {ca : Nat → Nat} {ad : Nat → Nat → Nat} (hend : ∀ (H : Heap) (locs : List Loc) (ls : Array Slot) (cells slots : Nat), va_S A s.heap H locs → cells ≤ 600086 → slots ≤ 7301442 → W p₀ l e₀ rmL_law s m args below meth c₀ H locs (cells) (slots) Q (F0 m 687 ls [.int 1])) : ∀ (d n : Nat) (V : gX) (av cv ak ck : Nat) (vs ks L : List Nat) (f : Nat → va_E) (ru mo lk wn qu bu mv mk : Int32) (H : Heap) (locs : List Loc) (ls : Array Slot) (cells slots : Nat), n ≤ 34 → 34 < d + n → cells ≤ 20000 + 1300 * n → slots ≤ 500000 + 50000 * n → LI Y V av cv ak ck ca vs ks L f ru mo lk wn qu bu → Wd Dd A s.heap ([(rb, .inr (5, [.ref vl, .ref kl, .ref co, .int ru, .int mo, .int lk, .int wn, .int qu, .int bu])), (vl, .inr (11, [.int mv, .ref av, .int (nI vs.length)])), (av, .inl (Y.2.1 2, cv, .inr (.inr (.inr (.inr (fun k => vs[k]?)))))), (kl, .inr (11, [.int mk, .ref ak, .int (nI ks.length)])), (co, .inl (Y.2.1 4, 6, .inr (.inr (.inr (.inr (fun l => some (ca l)))))))] ++ ((KT Y ak ck ks ++ WX Y ad V) ++ va_pl L f)) H locs → lv_has ls 13 [(6, .int (nI n)), (5, .ref (ad 0 0)), (2, .ref rb), (0, .ref bs)] → W p₀ l e₀ rmL_law s m args below meth c₀ H locs (cells) (slots) Q (F0 m 220 ls []) := by
  have hx := X.x
  have hb := X.b
  have hinX5 : ∀ w ∈ wsX50, w ∈ wsL_law := inlX5
  intro d
  induction d with
  | zero => intro n V av cv ak ck vs ks L f ru mo lk wn qu bu mv mk H locs ls cells slots h1 h2; omega
  | succ d ih =>
    intro n V av cv ak ck vs ks L f ru mo lk wn qu bu mv mk H locs ls cells slots h1 h2 hcc hss hI hW hl
    obtain ⟨n1, n40, n8, hoV, hoK, hvo, hS⟩ := hI.n
    refine lv_iload hx hb dL_law_220 (lv_at hl 0 rfl) ?_
    refine lv_bipush (v := 34) hx hb dL_law_222 (by decide) ?_
    refine lv_icmp_ge (tgt := 674) hx hb dL_law_224 (by decide) (fun cq => ?_) (fun cq => ?_)
    · refine lv_aload hx hb dL_law_674 (lv_at hl 1 rfl) ?_
      refine rV_ (As := []) (rest := []) (wc := WX Y ad V) (w9 := [(rb, .inr (5, [.ref vl, .ref kl, .ref co, .int ru, .int mo, .int lk, .int wn, .int qu, .int bu])), (vl, .inr (11, [.int mv, .ref av, .int (nI vs.length)])), (av, .inl (Y.2.1 2, cv, .inr (.inr (.inr (.inr (fun k => vs[k]?)))))), (kl, .inr (11, [.int mk, .ref ak, .int (nI ks.length)])), (co, .inl (Y.2.1 4, 6, .inr (.inr (.inr (.inr (fun l => some (ca l)))))))] ++ (KT Y ak ck ks ++ va_pl L f)) X ((kX4_gap l Dd Y ad V  _ hI.gap).r) (cwV 0 X.1.2.2.2.2 gL_law_X4_gap rfl rfl rfl (by decide +kernel) ⟨(Nat.le_of_ble_eq_true rfl), (Nat.le_of_ble_eq_true rfl)⟩) hW (pmq63 _ _ _ _ _ _ _ _) 0 4 rfl rfl rfl rfl hl.1 rfl (Nat.le_of_ble_eq_true rfl) dL_law_676 ⟨(by show (cells) + 0 ≤ 600086; omega), (by show (slots) + 0 ≤ 7301442; omega)⟩ (fun rv wq H locs hp hW => ?_)
      obtain ⟨rfl, rfl⟩ := hp
      have hW : Wd Dd A s.heap ([(rb, .inr (5, [.ref vl, .ref kl, .ref co, .int ru, .int mo, .int lk, .int wn, .int qu, .int bu])), (vl, .inr (11, [.int mv, .ref av, .int (nI vs.length)])), (av, .inl (Y.2.1 2, cv, .inr (.inr (.inr (.inr (fun k => vs[k]?)))))), (kl, .inr (11, [.int mk, .ref ak, .int (nI ks.length)])), (co, .inl (Y.2.1 4, 6, .inr (.inr (.inr (.inr (fun l => some (ca l)))))))] ++ ((KT Y ak ck ks ++ WX Y ad V) ++ va_pl L f)) H locs := hW.permA (pmq64 _ _ _ _ _ _ _ _)
      refine W.eq (g2 := F0 m 679 ls [.int 0]) rfl ?_
      refine lv_if_ne (tgt := 686) hx hb dL_law_679 (by decide) (fun h => absurd h (fun z => z rfl)) (fun _ => ?_)
      refine lv_iconst (v := 1) hx hb dL_law_682 (by decide) ?_
      refine lv_goto (tgt := 687) hx hb dL_law_683 (by decide) ?_
      exact hend _ _ _ _ _ hW.2.2 (show cells ≤ 600086 from by omega) (show slots ≤ 7301442 from by omega)
    · have hn34 : n < 34 := Nat.lt_of_not_le (fun h => cq ((nI_leI (a := 34) (by decide) (by omega)).mpr h))
      refine lv_aload_n hx hb dL_law_227 rfl (lv_at hl 3 rfl) ?_
      refine lv_bipush (v := 19) hx hb dL_law_228 (by decide) ?_
      refine lv_iload hx hb dL_law_230 (lv_at hl 0 rfl) ?_
      refine lv_iadd hx hb dL_law_232 ?_
      rw [show (19 : Int32) + nI n = nI (19 + n) from nI_add 19 n]
      refine rE_ (As := [.ref bs, .int (nI (19 + n))]) (rest := []) X (kL_cell l Dd Y bs Ls (19 + n) xs (by omega) (by omega)) (va_cwS 2 X.1.2.2.2.2 gL_law_L_cell rfl rfl rfl (by decide +kernel) ⟨(Nat.le_of_ble_eq_true rfl), (Nat.le_of_ble_eq_true rfl)⟩) hX hbl hbA hW rfl hl.1 rfl (Nat.le_of_ble_eq_true rfl) dL_law_233 ⟨by show cells ≤ 600086; omega, by show slots ≤ 7301442; omega⟩ (fun H locs hW => ?_)
      generalize (if 19 + n < Ls then xs (19 + n) else 0) = dr
      refine lv_istore (lv' := [(7, .int dr), (6, .int (nI n)), (5, .ref (ad 0 0)), (2, .ref rb), (0, .ref bs)]) hx hb dL_law_236 hl (by decide) rfl (fun ls hl => ?_)
      refine lv_aload_n hx hb dL_law_238 rfl (lv_at hl 3 rfl) ?_
      refine gN_ X hinX5 hW 0 rfl rfl 0 (by decide) 1 rfl rfl rfl dL_law_239 ?_
      refine rF_ (As := []) (rest := []) (wc := [(vl, .inr (11, [.int mv, .ref av, .int (nI vs.length)]))]) (w9 := [(rb, .inr (5, [.ref vl, .ref kl, .ref co, .int ru, .int mo, .int lk, .int wn, .int qu, .int bu])), (av, .inl (Y.2.1 2, cv, .inr (.inr (.inr (.inr (fun k => vs[k]?)))))), (kl, .inr (11, [.int mk, .ref ak, .int (nI ks.length)])), (co, .inl (Y.2.1 4, 6, .inr (.inr (.inr (.inr (fun l => some (ca l)))))))] ++ ((KT Y ak ck ks ++ WX Y ad V) ++ va_pl L f)) X 0 (kJx4a65c_size_8abf5 l Dd Y vl mv (nI vs.length) (.ref av)) gL_law_Jx4a65c_size_8abf5_f110Jx4a65c rfl rfl rfl (by decide +kernel) (by decide +kernel) ⟨(Nat.le_of_ble_eq_true rfl), (Nat.le_of_ble_eq_true rfl)⟩ hW (pmq25 _ _ _ _ _ _) 0 11 rfl rfl rfl rfl hl.1 rfl (Nat.le_of_ble_eq_true rfl) dL_law_242 ⟨(by show (cells) + 0 ≤ 600086; omega), (by show (slots) + 0 ≤ 7301442; omega)⟩ (fun rv wq H locs hp hW => ?_)
      obtain ⟨rfl, rfl⟩ := hp
      have hW : Wd Dd A s.heap ([(vl, .inr (11, [.int mv, .ref av, .int (nI vs.length)])), (rb, .inr (5, [.ref vl, .ref kl, .ref co, .int ru, .int mo, .int lk, .int wn, .int qu, .int bu])), (av, .inl (Y.2.1 2, cv, .inr (.inr (.inr (.inr (fun k => vs[k]?)))))), (kl, .inr (11, [.int mk, .ref ak, .int (nI ks.length)])), (co, .inl (Y.2.1 4, 6, .inr (.inr (.inr (.inr (fun l => some (ca l)))))))] ++ ((KT Y ak ck ks ++ WX Y ad V) ++ va_pl L f)) H locs := hW
      have hW : Wd Dd A s.heap ([(rb, .inr (5, [.ref vl, .ref kl, .ref co, .int ru, .int mo, .int lk, .int wn, .int qu, .int bu])), (vl, .inr (11, [.int mv, .ref av, .int (nI vs.length)])), (av, .inl (Y.2.1 2, cv, .inr (.inr (.inr (.inr (fun k => vs[k]?)))))), (kl, .inr (11, [.int mk, .ref ak, .int (nI ks.length)])), (co, .inl (Y.2.1 4, 6, .inr (.inr (.inr (.inr (fun l => some (ca l)))))))] ++ ((KT Y ak ck ks ++ WX Y ad V) ++ va_pl L f)) H locs := hW.permA (pmq26 _ _ _ _ _ _)
      refine W.eq (g2 := F0 m 247 ls [.int (nI vs.length)]) rfl ?_
      refine lv_istore (lv' := [(8, .int (nI vs.length)), (7, .int dr), (6, .int (nI n)), (5, .ref (ad 0 0)), (2, .ref rb), (0, .ref bs)]) hx hb dL_law_247 hl (by decide) rfl (fun ls hl => ?_)
      refine lv_iload hx hb dL_law_249 (lv_at hl 1 rfl) ?_
      refine lv_iconst (v := 4) hx hb dL_law_251 (by decide) ?_
      refine lv_ishr hx hb dL_law_252 ?_
      refine lv_iload hx hb dL_law_253 (lv_at hl 0 rfl) ?_
      refine W.eq (g2 := F0 m 255 ls [.int (nI vs.length), .int (dr >>> ((4 : Int32) &&& 31))]) rfl ?_
      refine rS_ (As := [.int (dr >>> ((4 : Int32) &&& 31)), .int (nI vs.length)]) (rest := []) (wc := []) (w9 := [(rb, .inr (5, [.ref vl, .ref kl, .ref co, .int ru, .int mo, .int lk, .int wn, .int qu, .int bu])), (vl, .inr (11, [.int mv, .ref av, .int (nI vs.length)])), (av, .inl (Y.2.1 2, cv, .inr (.inr (.inr (.inr (fun k => vs[k]?)))))), (kl, .inr (11, [.int mk, .ref ak, .int (nI ks.length)])), (co, .inl (Y.2.1 4, 6, .inr (.inr (.inr (.inr (fun l => some (ca l)))))))] ++ ((KT Y ak ck ks ++ WX Y ad V) ++ va_pl L f)) X (kL_bound l Dd Y (dr >>> ((4 : Int32) &&& 31)) vs.length (by omega) (by omega)) (va_cwS 2 X.1.2.2.2.2 gL_law_L_bound rfl rfl rfl (by decide +kernel) ⟨(Nat.le_of_ble_eq_true rfl), (Nat.le_of_ble_eq_true rfl)⟩) hW (List.Perm.refl _) rfl hl.1 rfl (Nat.le_of_ble_eq_true rfl) dL_law_255 ⟨(by show (cells) + 0 ≤ 600086; omega), (by show (slots) + 0 ≤ 7301442; omega)⟩ (fun rv wq H locs hp hW => ?_)
      obtain ⟨a, ha, rfl, rfl⟩ := hp
      have hW : Wd Dd A s.heap ([(rb, .inr (5, [.ref vl, .ref kl, .ref co, .int ru, .int mo, .int lk, .int wn, .int qu, .int bu])), (vl, .inr (11, [.int mv, .ref av, .int (nI vs.length)])), (av, .inl (Y.2.1 2, cv, .inr (.inr (.inr (.inr (fun k => vs[k]?)))))), (kl, .inr (11, [.int mk, .ref ak, .int (nI ks.length)])), (co, .inl (Y.2.1 4, 6, .inr (.inr (.inr (.inr (fun l => some (ca l)))))))] ++ ((KT Y ak ck ks ++ WX Y ad V) ++ va_pl L f)) H locs := hW
      refine W.eq (g2 := F0 m 258 ls [.int (nI a)]) rfl ?_
      refine lv_istore (lv' := [(9, .int (nI a)), (8, .int (nI vs.length)), (7, .int dr), (6, .int (nI n)), (5, .ref (ad 0 0)), (2, .ref rb), (0, .ref bs)]) hx hb dL_law_258 hl (by decide) rfl (fun ls hl => ?_)
      refine lv_iload hx hb dL_law_260 (lv_at hl 0 rfl) ?_
      refine lv_iload hx hb dL_law_262 (lv_at hl 2 rfl) ?_
      refine lv_bipush (v := 10) hx hb dL_law_264 (by decide) ?_
      refine lv_ishr hx hb dL_law_266 ?_
      refine lv_iload hx hb dL_law_267 (lv_at hl 1 rfl) ?_
      refine lv_iload hx hb dL_law_269 (lv_at hl 0 rfl) ?_
      refine lv_isub hx hb dL_law_271 ?_
      rw [nI_sub (show a ≤ vs.length by omega)]
      refine W.eq (g2 := F0 m 272 ls [.int (nI (vs.length - a)), .int (dr >>> ((10 : Int32) &&& 31)), .int (nI a)]) rfl ?_
      refine rS_ (As := [.int (dr >>> ((10 : Int32) &&& 31)), .int (nI (vs.length - a))]) (rest := [.int (nI a)]) (wc := []) (w9 := [(rb, .inr (5, [.ref vl, .ref kl, .ref co, .int ru, .int mo, .int lk, .int wn, .int qu, .int bu])), (vl, .inr (11, [.int mv, .ref av, .int (nI vs.length)])), (av, .inl (Y.2.1 2, cv, .inr (.inr (.inr (.inr (fun k => vs[k]?)))))), (kl, .inr (11, [.int mk, .ref ak, .int (nI ks.length)])), (co, .inl (Y.2.1 4, 6, .inr (.inr (.inr (.inr (fun l => some (ca l)))))))] ++ ((KT Y ak ck ks ++ WX Y ad V) ++ va_pl L f)) X (kL_bound l Dd Y (dr >>> ((10 : Int32) &&& 31)) (vs.length - a) (by omega) (by omega)) (va_cwS 2 X.1.2.2.2.2 gL_law_L_bound rfl rfl rfl (by decide +kernel) ⟨(Nat.le_of_ble_eq_true rfl), (Nat.le_of_ble_eq_true rfl)⟩) hW (List.Perm.refl _) rfl hl.1 rfl (Nat.le_of_ble_eq_true rfl) dL_law_272 ⟨(by show (cells) + 0 ≤ 600086; omega), (by show (slots) + 0 ≤ 7301442; omega)⟩ (fun rv wq H locs hp hW => ?_)
      obtain ⟨t9, ht, rfl, rfl⟩ := hp
      have hW : Wd Dd A s.heap ([(rb, .inr (5, [.ref vl, .ref kl, .ref co, .int ru, .int mo, .int lk, .int wn, .int qu, .int bu])), (vl, .inr (11, [.int mv, .ref av, .int (nI vs.length)])), (av, .inl (Y.2.1 2, cv, .inr (.inr (.inr (.inr (fun k => vs[k]?)))))), (kl, .inr (11, [.int mk, .ref ak, .int (nI ks.length)])), (co, .inl (Y.2.1 4, 6, .inr (.inr (.inr (.inr (fun l => some (ca l)))))))] ++ ((KT Y ak ck ks ++ WX Y ad V) ++ va_pl L f)) H locs := hW
      refine W.eq (g2 := F0 m 275 ls [.int (nI t9), .int (nI a)]) rfl ?_
      refine lv_iadd hx hb dL_law_275 ?_
      rw [nI_add]
      refine lv_istore (lv' := [(10, .int (nI (a + t9))), (9, .int (nI a)), (8, .int (nI vs.length)), (7, .int dr), (6, .int (nI n)), (5, .ref (ad 0 0)), (2, .ref rb), (0, .ref bs)]) hx hb dL_law_276 hl (by decide) rfl (fun ls hl => ?_)
      refine lv_iload hx hb dL_law_278 (lv_at hl 3 rfl) ?_
      refine lv_bipush (v := 16) hx hb dL_law_280 (by decide) ?_
      refine lv_ishr hx hb dL_law_282 ?_
      refine lv_bipush (v := 41) hx hb dL_law_283 (by decide) ?_
      refine W.eq (g2 := F0 m 285 ls [.int (nI 41), .int (dr >>> ((16 : Int32) &&& 31))]) rfl ?_
      refine rS_ (As := [.int (dr >>> ((16 : Int32) &&& 31)), .int (nI 41)]) (rest := []) (wc := []) (w9 := [(rb, .inr (5, [.ref vl, .ref kl, .ref co, .int ru, .int mo, .int lk, .int wn, .int qu, .int bu])), (vl, .inr (11, [.int mv, .ref av, .int (nI vs.length)])), (av, .inl (Y.2.1 2, cv, .inr (.inr (.inr (.inr (fun k => vs[k]?)))))), (kl, .inr (11, [.int mk, .ref ak, .int (nI ks.length)])), (co, .inl (Y.2.1 4, 6, .inr (.inr (.inr (.inr (fun l => some (ca l)))))))] ++ ((KT Y ak ck ks ++ WX Y ad V) ++ va_pl L f)) X (kL_bound l Dd Y (dr >>> ((16 : Int32) &&& 31)) 41 (by omega) (by omega)) (va_cwS 2 X.1.2.2.2.2 gL_law_L_bound rfl rfl rfl (by decide +kernel) ⟨(Nat.le_of_ble_eq_true rfl), (Nat.le_of_ble_eq_true rfl)⟩) hW (List.Perm.refl _) rfl hl.1 rfl (Nat.le_of_ble_eq_true rfl) dL_law_285 ⟨(by show (cells) + 0 ≤ 600086; omega), (by show (slots) + 0 ≤ 7301442; omega)⟩ (fun rv wq H locs hp hW => ?_)
      obtain ⟨r, hr, rfl, rfl⟩ := hp
      have hW : Wd Dd A s.heap ([(rb, .inr (5, [.ref vl, .ref kl, .ref co, .int ru, .int mo, .int lk, .int wn, .int qu, .int bu])), (vl, .inr (11, [.int mv, .ref av, .int (nI vs.length)])), (av, .inl (Y.2.1 2, cv, .inr (.inr (.inr (.inr (fun k => vs[k]?)))))), (kl, .inr (11, [.int mk, .ref ak, .int (nI ks.length)])), (co, .inl (Y.2.1 4, 6, .inr (.inr (.inr (.inr (fun l => some (ca l)))))))] ++ ((KT Y ak ck ks ++ WX Y ad V) ++ va_pl L f)) H locs := hW
      refine W.eq (g2 := F0 m 288 ls [.int (nI r)]) rfl ?_
      refine lv_bipush (v := 20) hx hb dL_law_288 (by decide) ?_
      refine lv_isub hx hb dL_law_290 ?_
      refine W.eq (g2 := F0 m 291 ls [.int (num r)]) rfl ?_
      refine lv_istore (lv' := [(11, .int (num r)), (10, .int (nI (a + t9))), (9, .int (nI a)), (8, .int (nI vs.length)), (7, .int dr), (6, .int (nI n)), (5, .ref (ad 0 0)), (2, .ref rb), (0, .ref bs)]) hx hb dL_law_291 hl (by decide) rfl (fun ls hl => ?_)
      refine lv_iload hx hb dL_law_293 (lv_at hl 4 rfl) ?_
      refine lv_bipush (v := 15) hx hb dL_law_295 (by decide) ?_
      refine W.eq (g2 := F0 m 297 ls [.int (nI 15), .int dr]) rfl ?_
      refine rS_ (As := [.int dr, .int (nI 15)]) (rest := []) (wc := []) (w9 := [(rb, .inr (5, [.ref vl, .ref kl, .ref co, .int ru, .int mo, .int lk, .int wn, .int qu, .int bu])), (vl, .inr (11, [.int mv, .ref av, .int (nI vs.length)])), (av, .inl (Y.2.1 2, cv, .inr (.inr (.inr (.inr (fun k => vs[k]?)))))), (kl, .inr (11, [.int mk, .ref ak, .int (nI ks.length)])), (co, .inl (Y.2.1 4, 6, .inr (.inr (.inr (.inr (fun l => some (ca l)))))))] ++ ((KT Y ak ck ks ++ WX Y ad V) ++ va_pl L f)) X (kL_bound l Dd Y dr 15 (by omega) (by omega)) (va_cwS 2 X.1.2.2.2.2 gL_law_L_bound rfl rfl rfl (by decide +kernel) ⟨(Nat.le_of_ble_eq_true rfl), (Nat.le_of_ble_eq_true rfl)⟩) hW (List.Perm.refl _) rfl hl.1 rfl (Nat.le_of_ble_eq_true rfl) dL_law_297 ⟨(by show (cells) + 0 ≤ 600086; omega), (by show (slots) + 0 ≤ 7301442; omega)⟩ (fun rv wq H locs hp hW => ?_)
      obtain ⟨q, hq, rfl, rfl⟩ := hp
      have hW : Wd Dd A s.heap ([(rb, .inr (5, [.ref vl, .ref kl, .ref co, .int ru, .int mo, .int lk, .int wn, .int qu, .int bu])), (vl, .inr (11, [.int mv, .ref av, .int (nI vs.length)])), (av, .inl (Y.2.1 2, cv, .inr (.inr (.inr (.inr (fun k => vs[k]?)))))), (kl, .inr (11, [.int mk, .ref ak, .int (nI ks.length)])), (co, .inl (Y.2.1 4, 6, .inr (.inr (.inr (.inr (fun l => some (ca l)))))))] ++ ((KT Y ak ck ks ++ WX Y ad V) ++ va_pl L f)) H locs := hW
      refine W.eq (g2 := F0 m 300 ls [.int (nI q)]) rfl ?_
      have hy := (num_b r hr).1
      have c668 : ∀ (V : gX) (av cv ak ck : Nat) (vs ks L : List Nat) (f : Nat → va_E) (ru mo lk wn qu bu mv mk : Int32) (H : Heap) (locs : List Loc) (ls : Array Slot) (cells' slots' : Nat), cells' ≤ cells + 1300 → slots' ≤ slots + 50000 → LI Y V av cv ak ck ca vs ks L f ru mo lk wn qu bu → Wd Dd A s.heap ([(rb, .inr (5, [.ref vl, .ref kl, .ref co, .int ru, .int mo, .int lk, .int wn, .int qu, .int bu])), (vl, .inr (11, [.int mv, .ref av, .int (nI vs.length)])), (av, .inl (Y.2.1 2, cv, .inr (.inr (.inr (.inr (fun k => vs[k]?)))))), (kl, .inr (11, [.int mk, .ref ak, .int (nI ks.length)])), (co, .inl (Y.2.1 4, 6, .inr (.inr (.inr (.inr (fun l => some (ca l)))))))] ++ ((KT Y ak ck ks ++ WX Y ad V) ++ va_pl L f)) H locs → lv_has ls 13 [(6, .int (nI n)), (5, .ref (ad 0 0)), (2, .ref rb), (0, .ref bs)] → W p₀ l e₀ rmL_law s m args below meth c₀ H locs (cells') (slots') Q (F0 m 668 ls []) := by
        intro V av cv ak ck vs ks L f ru mo lk wn qu bu mv mk H locs ls cells' slots' hc1 hs1 hI hW hl
        refine lv_iinc (v := (nI n) + 1) (lv' := [(6, .int ((nI n) + 1)), (5, .ref (ad 0 0)), (2, .ref rb), (0, .ref bs)]) hx hb dL_law_668 hl (k := 0) rfl rfl (by decide) rfl (fun ls hl => ?_)
        rw [nI_1] at hl
        refine lv_goto (tgt := 220) hx hb dL_law_671 (by decide) ?_
        have h3 : n + 1 ≤ 34 := hn34
        have h4 : 34 < d + (n + 1) := by omega
        have h5 : cells' ≤ 20000 + 1300 * (n + 1) := by omega
        have h6 : slots' ≤ 500000 + 50000 * (n + 1) := by rw [Nat.mul_add, Nat.mul_one, ← Nat.add_assoc]; exact Nat.le_trans hs1 (Nat.add_le_add_right hss _)
        exact ih (n + 1) V av cv ak ck vs ks L f ru mo lk wn qu bu mv mk _ _ _ _ _ h3 h4 h5 h6 hI hW hl
      have c657 : ∀ (V : gX) (av cv ak ck : Nat) (vs ks L : List Nat) (f : Nat → va_E) (ru mo lk wn qu bu mv mk : Int32) (H : Heap) (locs : List Loc) (ls : Array Slot) (cells' slots' : Nat), cells' ≤ cells + 700 → slots' ≤ slots + 40000 → LI Y V av cv ak ck ca vs ks L f ru mo lk wn qu bu → Wd Dd A s.heap ([(rb, .inr (5, [.ref vl, .ref kl, .ref co, .int ru, .int mo, .int lk, .int wn, .int qu, .int bu])), (vl, .inr (11, [.int mv, .ref av, .int (nI vs.length)])), (av, .inl (Y.2.1 2, cv, .inr (.inr (.inr (.inr (fun k => vs[k]?)))))), (kl, .inr (11, [.int mk, .ref ak, .int (nI ks.length)])), (co, .inl (Y.2.1 4, 6, .inr (.inr (.inr (.inr (fun l => some (ca l)))))))] ++ ((KT Y ak ck ks ++ WX Y ad V) ++ va_pl L f)) H locs → lv_has ls 13 [(6, .int (nI n)), (5, .ref (ad 0 0)), (2, .ref rb), (0, .ref bs)] → W p₀ l e₀ rmL_law s m args below meth c₀ H locs (cells') (slots') Q (F0 m 657 ls []) := by
        intro V av cv ak ck vs ks L f ru mo lk wn qu bu mv mk H locs ls cells' slots' hc1 hs1 hI hW hl
        refine lv_aload_n hx hb dL_law_657 rfl (lv_at hl 2 rfl) ?_
        refine lv_aload hx hb dL_law_658 (lv_at hl 1 rfl) ?_
        refine rV_ (As := [.ref (ad 0 0)]) (rest := []) (wc := [(rb, .inr (5, [.ref vl, .ref kl, .ref co, .int ru, .int mo, .int lk, .int wn, .int qu, .int bu])), (vl, .inr (11, [.int mv, .ref av, .int (nI vs.length)])), (av, .inl (Y.2.1 2, cv, .inr (.inr (.inr (.inr (fun k => vs[k]?)))))), (kl, .inr (11, [.int mk, .ref ak, .int (nI ks.length)])), (co, .inl (Y.2.1 4, 6, .inr (.inr (.inr (.inr (fun l => some (ca l)))))))] ++ ((KT Y ak ck ks ++ WX Y ad V) ++ va_pl L f)) (w9 := []) X (kSoL l Dd Y rb vl kl co av cv ak ck ca vs ks L f ru mo lk wn qu bu mv mk V ad hst hI) (cwV 1 X.1.2.2.2.2 gL_law_X5_isSo rfl rfl rfl (by decide +kernel) ⟨(Nat.le_of_ble_eq_true rfl), (Nat.le_of_ble_eq_true rfl)⟩) hW (by rw [List.append_nil]) 0 5 rfl rfl rfl rfl hl.1 rfl (Nat.le_of_ble_eq_true rfl) dL_law_660 ⟨(by show (cells') + 500 ≤ 600086; omega), (by show (slots') + 3000 ≤ 7301442; omega)⟩ (fun rv wq H locs hp hW => ?_)
        obtain ⟨rfl, rfl⟩ := hp
        have hW : Wd Dd A s.heap ([(rb, .inr (5, [.ref vl, .ref kl, .ref co, .int ru, .int mo, .int lk, .int wn, .int qu, .int bu])), (vl, .inr (11, [.int mv, .ref av, .int (nI vs.length)])), (av, .inl (Y.2.1 2, cv, .inr (.inr (.inr (.inr (fun k => vs[k]?)))))), (kl, .inr (11, [.int mk, .ref ak, .int (nI ks.length)])), (co, .inl (Y.2.1 4, 6, .inr (.inr (.inr (.inr (fun l => some (ca l)))))))] ++ ((KT Y ak ck ks ++ WX Y ad V) ++ va_pl L f)) H locs := by rw [List.append_nil] at hW; exact hW
        refine W.eq (g2 := F0 m 663 ls [.int 1]) rfl ?_
        refine lv_if_ne (tgt := 668) hx hb dL_law_663 (by decide) (fun _ => ?_) (fun h => absurd h (by decide))
        exact c668 V av cv ak ck vs ks L f ru mo lk wn qu bu mv mk _ _ _ _ _ (show cells' + 500 ≤ cells + 1300 from by omega) (show slots' + 3000 ≤ slots + 50000 from by omega) hI hW hl
      have c8 : ∀ (V : gX) (av cv ak ck : Nat) (vs ks L : List Nat) (f : Nat → va_E) (ru mo lk wn qu bu mv mk : Int32) (H : Heap) (locs : List Loc) (ls : Array Slot) (cells' slots' : Nat), cells' ≤ cells + 700 → slots' ≤ slots + 40000 → LI Y V av cv ak ck ca vs ks L f ru mo lk wn qu bu → Wd Dd A s.heap ([(rb, .inr (5, [.ref vl, .ref kl, .ref co, .int ru, .int mo, .int lk, .int wn, .int qu, .int bu])), (vl, .inr (11, [.int mv, .ref av, .int (nI vs.length)])), (av, .inl (Y.2.1 2, cv, .inr (.inr (.inr (.inr (fun k => vs[k]?)))))), (kl, .inr (11, [.int mk, .ref ak, .int (nI ks.length)])), (co, .inl (Y.2.1 4, 6, .inr (.inr (.inr (.inr (fun l => some (ca l)))))))] ++ ((KT Y ak ck ks ++ WX Y ad V) ++ va_pl L f)) H locs → lv_has ls 13 [(6, .int (nI n)), (5, .ref (ad 0 0)), (2, .ref rb), (0, .ref bs)] → W p₀ l e₀ rmL_law s m args below meth c₀ H locs (cells') (slots') Q (F0 m 668 ls []) := fun V av cv ak ck vs ks L f ru mo lk wn qu bu mv mk H locs ls cells' slots' hc1 hs1 => c668 V av cv ak ck vs ks L f ru mo lk wn qu bu mv mk H locs ls cells' slots' (by omega) (by omega)
      have hab : a ≤ a + t9 := Nat.le_add_right _ _
      have hbn : a + t9 < vs.length := by omega
      match q, hq with
      | 0, _ =>
        refine lv_tableIn (off := 72) (tgt := 372) hx hb dL_law_300 (by decide) (by decide) rfl (by decide) ?_
        exact lc_set X hst hI hab hbn hy (by omega) (by omega) hW hl c657 c8
      | 1, _ =>
        refine lv_tableIn (off := 72) (tgt := 372) hx hb dL_law_300 (by decide) (by decide) rfl (by decide) ?_
        exact lc_set X hst hI hab hbn hy (by omega) (by omega) hW hl c657 c8
      | 2, _ =>
        refine lv_tableIn (off := 72) (tgt := 372) hx hb dL_law_300 (by decide) (by decide) rfl (by decide) ?_
        exact lc_set X hst hI hab hbn hy (by omega) (by omega) hW hl c657 c8
      | 3, _ =>
        refine lv_tableIn (off := 72) (tgt := 372) hx hb dL_law_300 (by decide) (by decide) rfl (by decide) ?_
        exact lc_set X hst hI hab hbn hy (by omega) (by omega) hW hl c657 c8
      | 4, _ =>
        refine lv_tableIn (off := 94) (tgt := 394) hx hb dL_law_300 (by decide) (by decide) rfl (by decide) ?_
        exact lc_ask X hst hI hab hbn hy (by omega) (by omega) hW hl c657 c8
      | 5, _ =>
        refine lv_tableIn (off := 94) (tgt := 394) hx hb dL_law_300 (by decide) (by decide) rfl (by decide) ?_
        exact lc_ask X hst hI hab hbn hy (by omega) (by omega) hW hl c657 c8
      | 6, _ =>
        refine lv_tableIn (off := 94) (tgt := 394) hx hb dL_law_300 (by decide) (by decide) rfl (by decide) ?_
        exact lc_ask X hst hI hab hbn hy (by omega) (by omega) hW hl c657 c8
      | 7, _ =>
        refine lv_tableIn (off := 94) (tgt := 394) hx hb dL_law_300 (by decide) (by decide) rfl (by decide) ?_
        exact lc_ask X hst hI hab hbn hy (by omega) (by omega) hW hl c657 c8
      | 8, _ =>
        refine lv_tableIn (off := 116) (tgt := 416) hx hb dL_law_300 (by decide) (by decide) rfl (by decide) ?_
        exact lc_keep X hst hI hab hbn hy (by omega) (by omega) hW hl c657 c8
      | 9, _ =>
        refine lv_tableIn (off := 116) (tgt := 416) hx hb dL_law_300 (by decide) (by decide) rfl (by decide) ?_
        exact lc_keep X hst hI hab hbn hy (by omega) (by omega) hW hl c657 c8
      | 10, _ =>
        refine lv_tableIn (off := 201) (tgt := 501) hx hb dL_law_300 (by decide) (by decide) rfl (by decide) ?_
        exact lc_put X hst hI hab hbn hy (by omega) (by omega) hW hl c657 c8
      | 11, _ =>
        refine lv_tableIn (off := 233) (tgt := 533) hx hb dL_law_300 (by decide) (by decide) rfl (by decide) ?_
        exact lc_take X hst hI hab hbn hy (by omega) (by omega) hW hl c657 c8
      | 12, _ =>
        refine lv_tableIn (off := 260) (tgt := 560) hx hb dL_law_300 (by decide) (by decide) rfl (by decide) ?_
        exact lc_sweep X hst hI hab hbn hy (by omega) (by omega) hW hl c657 c8
      | 13, _ =>
        refine lv_tableIn (off := 278) (tgt := 578) hx hb dL_law_300 (by decide) (by decide) rfl (by decide) ?_
        exact lc_rule X hst hI hab hbn hy (by omega) (by omega) hW hl c657 c8
      | 14, _ =>
        refine lv_tableOut (tgt := 618) hx hb dL_law_300 (Or.inr (by decide)) (by decide) ?_
        exact lc_most X hst hI hab hbn hy (by omega) (by omega) hW hl c657 c8
      | q + 15, h => omega
end LAWL
