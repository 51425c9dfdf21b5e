theorem pmq25 {α : Type} (c0 c1 c2 c3 c4 : α) (t : List α) : ([c0, c1, c2, c3, c4] ++ t : List α).Perm (([c1]) ++ ([c0, c2, c3, c4] ++ t)) := pmA _ _ (fun x => by simp only [List.count_append, List.count_cons, List.count_nil]; omega)
theorem pmq26 {α : Type} (c0 c1 c2 c3 c4 : α) (t : List α) : ([c0, c1, c2, c3, c4] ++ t : List α).Perm ([c1, c0, c2, c3, c4] ++ t) := pmA _ _ (fun x => by simp only [List.count_append, List.count_cons, List.count_nil]; omega)
theorem pmq27 {α : Type} (c0 c1 c2 c3 c4 : α) (t : List α) : ([c0, c1, c2, c3, c4] ++ t : List α).Perm (([c1, c2]) ++ ([c0, c3, c4] ++ t)) := pmA _ _ (fun x => by simp only [List.count_append, List.count_cons, List.count_nil]; omega)
theorem pmq28 {α : Type} (c0 c1 c2 c3 c4 : α) (t : List α) : ([c0, c1, c2, c3, c4] ++ t : List α).Perm ([c2, c0, c1, c3, c4] ++ t) := pmA _ _ (fun x => by simp only [List.count_append, List.count_cons, List.count_nil]; omega)
theorem pmq29 {α : Type} (c0 c1 c2 c3 c4 : α) (t : List α) : ([c0, c1, c2, c3, c4] ++ t : List α).Perm (([c0, c1, c2, c3, c4] ++ t) ++ ([])) := pmA _ _ (fun x => by simp only [List.count_append, List.count_cons, List.count_nil]; omega)
/-! the law's own row: a pool of its values, stretches and rows of cells -/
def nuA (e : va_E) : Int32 := match e with
  | .inr (_, .int x :: _) => x
  | _ => 0
def wtA (e : va_E) : Int32 := match e with
  | .inr (_, _ :: .int x :: _) => x
  | _ => 0
def frA (e : va_E) : Nat := match e with
  | .inr (_, .ref x :: _) => x
  | _ => 0
def toA (e : va_E) : Nat := match e with
  | .inr (_, _ :: .ref x :: _) => x
  | _ => 0
def clA (e : va_E) : Nat → Option Nat := match e with
  | .inl (_, _, .inr (.inr (.inr (.inr f)))) => f
  | _ => fun _ => none
def vE (x w : Int32) : va_E := .inr (7, [.int x, .int w])
def sE (a b : Nat) : va_E := .inr (6, [.ref a, .ref b])
def cE (Y : yT) (f : Nat → Option Nat) : va_E := .inl (Y.2.1 1, 40, .inr (.inr (.inr (.inr f))))
def isV (e : va_E) : Prop := e = vE (nuA e) (wtA e) ∧ (wtA e = 0 ∨ wtA e = 1)
def isS (e : va_E) : Prop := e = sE (frA e) (toA e)
def isC (Y : yT) (e : va_E) : Prop := e = cE Y (clA e)
theorem isV_vE {x w : Int32} (h : w = 0 ∨ w = 1) : isV (vE x w) := ⟨rfl, h⟩
theorem isS_sE (a b : Nat) : isS (sE a b) := rfl
theorem isC_cE (Y : yT) (f : Nat → Option Nat) : isC Y (cE Y f) := rfl
theorem V_S {e : va_E} (h : isV e) (k : isS e) : False := by
  have := h.1.symm.trans k
  unfold vE sE at this
  cases this
theorem V_C {Y : yT} {e : va_E} (h : isV e) (k : isC Y e) : False := by
  have := h.1.symm.trans k
  unfold vE cE at this
  cases this
theorem S_C {Y : yT} {e : va_E} (h : isS e) (k : isC Y e) : False := by
  have := Eq.trans (Eq.symm h) k
  unfold sE cE at this
  cases this
def VO (L vs : List Nat) (f : Nat → va_E) : Prop := vs.Nodup ∧ ∀ v ∈ vs, v ∈ L ∧ isV (f v)
def SO (L ks : List Nat) (f : Nat → va_E) : Prop := ks.Nodup ∧ ∀ k ∈ ks, k ∈ L ∧ isS (f k)
def CO (Y : yT) (L : List Nat) (ca : Nat → Nat) (f : Nat → va_E) : Prop := (∀ l, l < 6 → ca l ∈ L ∧ isC Y (f (ca l))) ∧ ∀ l l', l < 6 → l' < 6 → ca l = ca l' → l = l'
/-- the kept list's own array, if it has one -/
def KT (Y : yT) (ak ck : Nat) (ks : List Nat) : va_W := if ck = 0 then [] else [(ak, .inl (Y.2.1 2, ck, .inr (.inr (.inr (.inr (fun k => ks[k]?))))))]
theorem VO.at {L vs : List Nat} {f : Nat → va_E} (h : VO L vs f) {p v : Nat} (hp : vs[p]? = some v) : v ∈ L ∧ isV (f v) := h.2 v (List.mem_of_getElem? hp)
theorem vs_inj {vs : List Nat} (h : vs.Nodup) {i j a : Nat} (hi : vs[i]? = some a) (hj : vs[j]? = some a) : i = j := by
  obtain ⟨h1, e1⟩ := List.getElem?_eq_some_iff.mp hi
  obtain ⟨h2, e2⟩ := List.getElem?_eq_some_iff.mp hj
  exact (List.getElem_inj h).mp (e1.trans e2.symm)
theorem vs_at {vs : List Nat} {p : Nat} (h : p < vs.length) : ∃ v : Nat, vs[p]? = some v := ⟨vs[p], List.getElem?_eq_getElem h⟩
theorem pl_at {X B : va_W} {L : List Nat} {f : Nat → va_E} {a : Nat} (h : a ∈ L) : ∃ k : Nat, (X ++ (B ++ va_pl L f))[k]? = some (a, f a) := by
  rw [← List.append_assoc]
  exact va_pl_get h
theorem pl_set {A : Nat → Prop} {X B : va_W} {L : List Nat} {f : Nat → va_E} {a k : Nat} {e : va_E} (hD : va_D A (X ++ (B ++ va_pl L f))) (h : a ∈ L) (hk : (X ++ (B ++ va_pl L f))[k]? = some (a, f a)) : (X ++ (B ++ va_pl L f)).set k (a, e) = X ++ (B ++ va_pl L (va_up f a e)) := by
  rw [← List.append_assoc] at hD hk ⊢
  rw [va_pl_set hD h hk, List.append_assoc]
theorem pl_e {X B : va_W} {L : List Nat} {f : Nat → va_E} {a k : Nat} {e : va_E} (hk : (X ++ (B ++ va_pl L f))[k]? = some (a, f a)) (he : f a = e) : (X ++ (B ++ va_pl L f))[k]? = some (a, e) := he ▸ hk
section LW0
variable {p : Program} {l : Launch} {e : Env} {R : Room} {s : State} {m : MethodId} {args : Array Value} {below : List Frame} {meth : Method} {c : Code} {H : Heap} {locs : List Loc} {cells slots : Nat} {Q : State → Prop}
variable {cc : ByteArray} {nL pc : Nat} {Ts : List Cond} {own : String} {Dd : va_G} {Y : yT} {A : Nat → Prop} {ls : Array Slot} {rest st : List Value} {ws : va_W} {a : Nat}
variable {W0 B : va_W} {L : List Nat} {f : Nat → va_E}
/-- a cast of a thing of that very class -/
theorem cO_ (X : cx p s m args c cc nL Ts own Dd Y A) (hW : Wd Dd A s.heap ws H locs) (q0 ci : Nat) {q : vw_C} {fs : List Value} {index i : Nat} (hc : vwCl[ci]? = some q) (he : ws[q0]? = some (a, .inr (ci, fs))) (hw : Ts[i]? = some (.classLink own index q.1)) (hdg : decode cc pc = .ok (.checkcast index, 3))
    (kk : W p l e R s m args below meth c H locs cells slots Q (F0 m (pc + 3) ls (.ref a :: rest))) : W p l e R s m args below meth c H locs cells slots Q (F0 m pc ls (.ref a :: rest)) :=
  va_castE X.x X.b X.1.2.2.2.1 (X.w hw) (va_recv X.2.1 hW.1 hc he) hdg kk
/-- a value of the pool: cast, number, mark -/
theorem vCa_ (X : cx p s m args c cc nL Ts own Dd Y A) (hW : Wd Dd A s.heap (W0 ++ (B ++ va_pl L f)) H locs) (hv : a ∈ L ∧ isV (f a)) {index i : Nat} (hw : Ts[i]? = some (.classLink own index RX7)) (hdg : decode cc pc = .ok (.checkcast index, 3))
    (kk : W p l e R s m args below meth c H locs cells slots Q (F0 m (pc + 3) ls (.ref a :: rest))) : W p l e R s m args below meth c H locs cells slots Q (F0 m pc ls (.ref a :: rest)) := by
  obtain ⟨k, hk⟩ := pl_at (X := W0) (B := B) (f := f) hv.1
  exact cO_ X hW k 7 rfl (pl_e hk hv.2.1) hw hdg kk
theorem sCa_ (X : cx p s m args c cc nL Ts own Dd Y A) (hW : Wd Dd A s.heap (W0 ++ (B ++ va_pl L f)) H locs) (hv : a ∈ L ∧ isS (f a)) {index i : Nat} (hw : Ts[i]? = some (.classLink own index RX6)) (hdg : decode cc pc = .ok (.checkcast index, 3))
    (kk : W p l e R s m args below meth c H locs cells slots Q (F0 m (pc + 3) ls (.ref a :: rest))) : W p l e R s m args below meth c H locs cells slots Q (F0 m pc ls (.ref a :: rest)) := by
  obtain ⟨k, hk⟩ := pl_at (X := W0) (B := B) (f := f) hv.1
  exact cO_ X hW k 6 rfl (pl_e hk hv.2) hw hdg kk
theorem gVn_ (X : cx p s m args c cc nL Ts RX5 Dd Y A) (hin : ∀ w ∈ wsX70, w ∈ Ts) (hW : Wd Dd A s.heap (W0 ++ (B ++ va_pl L f)) H locs) (hv : a ∈ L ∧ isV (f a)) (hdg : decode cc pc = .ok (.getfield 36, 3))
    (kk : W p l e R s m args below meth c H locs cells slots Q (F0 m (pc + 3) ls (.int (nuA (f a)) :: rest))) : W p l e R s m args below meth c H locs cells slots Q (F0 m pc ls (.ref a :: rest)) := by
  obtain ⟨k, hk⟩ := pl_at (X := W0) (B := B) (f := f) hv.1
  exact gN_ X hin hW k (pl_e hk hv.2.1) rfl 0 (by decide) 5 rfl rfl rfl hdg kk
theorem gVw_ (X : cx p s m args c cc nL Ts RX5 Dd Y A) (hin : ∀ w ∈ wsX70, w ∈ Ts) (hW : Wd Dd A s.heap (W0 ++ (B ++ va_pl L f)) H locs) (hv : a ∈ L ∧ isV (f a)) (hdg : decode cc pc = .ok (.getfield 65, 3))
    (kk : W p l e R s m args below meth c H locs cells slots Q (F0 m (pc + 3) ls (.int (wtA (f a)) :: rest))) : W p l e R s m args below meth c H locs cells slots Q (F0 m pc ls (.ref a :: rest)) := by
  obtain ⟨k, hk⟩ := pl_at (X := W0) (B := B) (f := f) hv.1
  exact gN_ X hin hW k (pl_e hk hv.2.1) rfl 1 (by decide) 6 rfl rfl rfl hdg kk
theorem pVn_ (X : cx p s m args c cc nL Ts RX5 Dd Y A) (hin : ∀ w ∈ wsX70, w ∈ Ts) (hW : Wd Dd A s.heap (W0 ++ (B ++ va_pl L f)) H locs) (hv : a ∈ L ∧ isV (f a)) {x : Int32} (hdg : decode cc pc = .ok (.putfield 36, 3))
    (kk : ∀ (H : Heap) (locs : List Loc), Wd Dd A s.heap (W0 ++ (B ++ va_pl L (va_up f a (vE x (wtA (f a)))))) H locs → W p l e R s m args below meth c H locs cells slots Q (F0 m (pc + 3) ls rest)) : W p l e R s m args below meth c H locs cells slots Q (F0 m pc ls (.int x :: .ref a :: rest)) := by
  obtain ⟨k, hk⟩ := pl_at (X := W0) (B := B) (f := f) hv.1
  exact pN_ (ty := .int) X hin tyX7 tyX7_ok nmX7 hW k (pl_e hk hv.2.1) rfl 0 (by decide) 5 rfl rfl rfl (by decide +kernel) rfl rfl (Nat.le_of_ble_eq_true rfl) hdg (pl_set hW.2.1 hv.1 hk) kk
theorem pVw_ (X : cx p s m args c cc nL Ts RX5 Dd Y A) (hin : ∀ w ∈ wsX70, w ∈ Ts) (hW : Wd Dd A s.heap (W0 ++ (B ++ va_pl L f)) H locs) (hv : a ∈ L ∧ isV (f a)) {x : Int32} (hx : x = 0 ∨ x = 1) (hdg : decode cc pc = .ok (.putfield 65, 3))
    (kk : ∀ (H : Heap) (locs : List Loc), Wd Dd A s.heap (W0 ++ (B ++ va_pl L (va_up f a (vE (nuA (f a)) x)))) H locs → W p l e R s m args below meth c H locs cells slots Q (F0 m (pc + 3) ls rest)) : W p l e R s m args below meth c H locs cells slots Q (F0 m pc ls (.int x :: .ref a :: rest)) := by
  obtain ⟨k, hk⟩ := pl_at (X := W0) (B := B) (f := f) hv.1
  exact pN_ (ty := .boolean) X hin tyX7 tyX7_ok nmX7 hW k (pl_e hk hv.2.1) rfl 1 (by decide) 6 rfl rfl rfl (by decide +kernel) (nz_b hx) (by rcases hx with rfl | rfl <;> rfl) (Nat.le_of_ble_eq_true rfl) hdg (pl_set hW.2.1 hv.1 hk) kk
theorem gSf_ (X : cx p s m args c cc nL Ts RX5 Dd Y A) (hin : ∀ w ∈ wsX60, w ∈ Ts) (hW : Wd Dd A s.heap (W0 ++ (B ++ va_pl L f)) H locs) (hv : a ∈ L ∧ isS (f a)) (hdg : decode cc pc = .ok (.getfield 109, 3))
    (kk : W p l e R s m args below meth c H locs cells slots Q (F0 m (pc + 3) ls (.ref (frA (f a)) :: rest))) : W p l e R s m args below meth c H locs cells slots Q (F0 m pc ls (.ref a :: rest)) := by
  obtain ⟨k, hk⟩ := pl_at (X := W0) (B := B) (f := f) hv.1
  exact gN_ X hin hW k (pl_e hk hv.2) rfl 0 (by decide) 7 rfl rfl rfl hdg kk
theorem gSt_ (X : cx p s m args c cc nL Ts RX5 Dd Y A) (hin : ∀ w ∈ wsX60, w ∈ Ts) (hW : Wd Dd A s.heap (W0 ++ (B ++ va_pl L f)) H locs) (hv : a ∈ L ∧ isS (f a)) (hdg : decode cc pc = .ok (.getfield 113, 3))
    (kk : W p l e R s m args below meth c H locs cells slots Q (F0 m (pc + 3) ls (.ref (toA (f a)) :: rest))) : W p l e R s m args below meth c H locs cells slots Q (F0 m pc ls (.ref a :: rest)) := by
  obtain ⟨k, hk⟩ := pl_at (X := W0) (B := B) (f := f) hv.1
  exact gN_ X hin hW k (pl_e hk hv.2) rfl 1 (by decide) 8 rfl rfl rfl hdg kk
theorem pSf_ (X : cx p s m args c cc nL Ts RX5 Dd Y A) (hin : ∀ w ∈ wsX60, w ∈ Ts) (hW : Wd Dd A s.heap (W0 ++ (B ++ va_pl L f)) H locs) (hv : a ∈ L ∧ isS (f a)) {x : Nat} (hdg : decode cc pc = .ok (.putfield 109, 3))
    (kk : ∀ (H : Heap) (locs : List Loc), Wd Dd A s.heap (W0 ++ (B ++ va_pl L (va_up f a (sE x (toA (f a)))))) H locs → W p l e R s m args below meth c H locs cells slots Q (F0 m (pc + 3) ls rest)) : W p l e R s m args below meth c H locs cells slots Q (F0 m pc ls (.ref x :: .ref a :: rest)) := by
  obtain ⟨k, hk⟩ := pl_at (X := W0) (B := B) (f := f) hv.1
  exact pN_ (ty := .object RX7) X hin tyX6 tyX6_ok nmX6 hW k (pl_e hk hv.2) rfl 0 (by decide) 7 rfl rfl rfl (by decide +kernel) rfl rfl (Nat.le_of_ble_eq_true rfl) hdg (pl_set hW.2.1 hv.1 hk) kk
theorem pSt_ (X : cx p s m args c cc nL Ts RX5 Dd Y A) (hin : ∀ w ∈ wsX60, w ∈ Ts) (hW : Wd Dd A s.heap (W0 ++ (B ++ va_pl L f)) H locs) (hv : a ∈ L ∧ isS (f a)) {x : Nat} (hdg : decode cc pc = .ok (.putfield 113, 3))
    (kk : ∀ (H : Heap) (locs : List Loc), Wd Dd A s.heap (W0 ++ (B ++ va_pl L (va_up f a (sE (frA (f a)) x)))) H locs → W p l e R s m args below meth c H locs cells slots Q (F0 m (pc + 3) ls rest)) : W p l e R s m args below meth c H locs cells slots Q (F0 m pc ls (.ref x :: .ref a :: rest)) := by
  obtain ⟨k, hk⟩ := pl_at (X := W0) (B := B) (f := f) hv.1
  exact pN_ (ty := .object RX7) X hin tyX6 tyX6_ok nmX6 hW k (pl_e hk hv.2) rfl 1 (by decide) 8 rfl rfl rfl (by decide +kernel) rfl rfl (Nat.le_of_ble_eq_true rfl) hdg (pl_set hW.2.1 hv.1 hk) kk
/-- the rows of cells -/
theorem aO_ (X : cx p s m args c cc nL Ts own Dd Y A) (hW : Wd Dd A s.heap ws H locs) (q0 : Nat) {n : Nat} {g : Nat → Option Nat} (ha : ws[q0]? = some (a, .inl (Y.2.1 4, n, .inr (.inr (.inr (.inr g)))))) {i : Int32} (hin : vp_in i n) (hdg : decode cc pc = .ok (.aaload, 1))
    (kk : W p l e R s m args below meth c H locs cells slots Q (F0 m (pc + 1) ls (va_rf (g i.toNatClampNeg) :: rest))) : W p l e R s m args below meth c H locs cells slots Q (F0 m pc ls (.int i :: .ref a :: rest)) := by
  have hlt : i.toNatClampNeg < n := Nat.not_le.mp fun q => hin (Or.inr q)
  exact W.aald (v := va_rf (g i.toNatClampNeg)) (ty := .array (.object "DoubledRowsLaw$Value")) X.x X.b (hW.1 q0 _ ha) (X.2.2.2.1.2.2.2.2.2.1.2.2.2.2.2.2.1.2.1 n (fun j => va_rf (g j))) rfl (fun q => by cases q) (by show ¬ (i < 0 ∨ (arrV _ _ _).slots.size ≤ _); rw [arrV_size]; exact hin) (by show (arrV _ _ _).slots[_]? = _; rw [arrV_read _ _ hlt]) rfl rfl hdg kk
theorem aC_ (X : cx p s m args c cc nL Ts own Dd Y A) (hW : Wd Dd A s.heap (W0 ++ (B ++ va_pl L f)) H locs) (hv : a ∈ L ∧ isC Y (f a)) {i : Int32} (hin : vp_in i 40) (hdg : decode cc pc = .ok (.aaload, 1))
    (kk : W p l e R s m args below meth c H locs cells slots Q (F0 m (pc + 1) ls (va_rf (clA (f a) i.toNatClampNeg) :: rest))) : W p l e R s m args below meth c H locs cells slots Q (F0 m pc ls (.int i :: .ref a :: rest)) := by
  obtain ⟨k, hk⟩ := pl_at (X := W0) (B := B) (f := f) hv.1
  exact alq_ X hW k 3 (pl_e hk hv.2) rfl hin hdg kk
theorem asC_ (X : cx p s m args c cc nL Ts own Dd Y A) (hW : Wd Dd A s.heap (W0 ++ (B ++ va_pl L f)) H locs) (hv : a ∈ L ∧ isC Y (f a)) {v : Nat} (hw : v ∈ L ∧ isV (f v)) {i : Int32} (hin : vp_in i 40) (hdg : decode cc pc = .ok (.aastore, 1))
    (kk : ∀ (H : Heap) (locs : List Loc), Wd Dd A s.heap (W0 ++ (B ++ va_pl L (va_up f a (cE Y (va_up (clA (f a)) i.toNatClampNeg (some v)))))) H locs → W p l e R s m args below meth c H locs cells slots Q (F0 m (pc + 1) ls rest)) : W p l e R s m args below meth c H locs cells slots Q (F0 m pc ls (.ref v :: .int i :: .ref a :: rest)) := by
  obtain ⟨k, hk⟩ := pl_at (X := W0) (B := B) (f := f) hv.1
  obtain ⟨k2, hk2⟩ := pl_at (X := W0) (B := B) (f := f) hw.1
  refine va_astq (r := (RX7, TX7, 2)) X.x X.b X.2.1 hW.1 hW.2.1 hW.2.2 k 3 k2 7 (pl_e hk hv.2) rfl (pl_e hk2 hw.2.1) rfl hin hdg (fun H1 locs1 h1 h2 h3 => ?_)
  have e := pl_set (e := cE Y (va_up (clA (f a)) i.toNatClampNeg (some v))) hW.2.1 hv.1 hk
  exact kk H1 locs1 ⟨e ▸ h1, e ▸ h2, h3⟩
end LW0

abbrev rmX5_placeOf : Room := { frames := 3, cells := 0, slots := 0, locals := 64 }
set_option maxRecDepth 100000 in
set_option maxHeartbeats 4000000 in
theorem kX5_placeOf (l : Launch) (Dd : va_G) (Y : yT) (rb vl kl co av cv ak ck : Nat) (ca : Nat → Nat) (vs ks L : List Nat) (f : Nat → va_E) (ru mo lk wn qu bu mv mk : Int32) (a i : Nat) (hC : vs.length ≤ cv ∧ cv ≤ 600) (hnd : vs.Nodup) (hi : vs[i]? = some a) : MR l yX5_placeOf wsX5_placeOf rmX5_placeOf Dd Y [.ref rb, .ref a] ([(rb, .inr (5, [.ref vl, .ref kl, .ref co, .int ru, .int mo, .int lk, .int wn, .int qu, .int bu])), (vl, .inr (11, [.int mv, .ref av, .int (nI vs.length)])), (av, .inl (Y.2.1 2, cv, .inr (.inr (.inr (.inr (fun k => vs[k]?)))))), (kl, .inr (11, [.int mk, .ref ak, .int (nI ks.length)])), (co, .inl (Y.2.1 4, 6, .inr (.inr (.inr (.inr (fun l => some (ca l)))))))] ++ (KT Y ak ck ks ++ va_pl L f)) (fun rv w => rv = some (.int (nI i)) ∧ w = [(rb, .inr (5, [.ref vl, .ref kl, .ref co, .int ru, .int mo, .int lk, .int wn, .int qu, .int bu])), (vl, .inr (11, [.int mv, .ref av, .int (nI vs.length)])), (av, .inl (Y.2.1 2, cv, .inr (.inr (.inr (.inr (fun k => vs[k]?)))))), (kl, .inr (11, [.int mk, .ref ak, .int (nI ks.length)])), (co, .inl (Y.2.1 4, 6, .inr (.inr (.inr (.inr (fun l => some (ca l)))))))] ++ (KT Y ak ck ks ++ va_pl L f)) 0 0 := by
  have hi2 := (List.getElem?_eq_some_iff.mp hi).1
  refine MRk (cc := cX5_placeOf) (maxL := 3) (ret := (some .int)) (by decide) rfl (Nat.le_of_ble_eq_true rfl) (fun {p₀ e₀ s m args below meth c₀ A} ls Q X hin hW hl hI hV hA => ?_)
  have hx := X.x
  have hb := X.b
  have hl : lv_has ls 3 [(0, .ref rb), (1, .ref a)] := hl
  have hinX5 : ∀ w ∈ wsX50, w ∈ wsX5_placeOf := fun w h => List.mem_cons_of_mem _ (List.mem_append_left _ (List.mem_append_right _ h))
  refine lv_iconst (v := 0) hx hb dX5_placeOf_0 (by decide) ?_
  refine lv_istore_n (lv' := [(2, .int 0), (0, .ref rb), (1, .ref a)]) hx hb dX5_placeOf_1 rfl hl (by decide) rfl (fun ls hl => ?_)
  have lp : ∀ (d : Nat) (k : Nat) (H : Heap) (locs : List Loc) (ls : Array Slot), (hk : k ≤ i) → (i < d + k) → lv_has ls 3 [(2, .int (nI k)), (0, .ref rb), (1, .ref a)] → Wd Dd A s.heap ([(rb, .inr (5, [.ref vl, .ref kl, .ref co, .int ru, .int mo, .int lk, .int wn, .int qu, .int bu])), (vl, .inr (11, [.int mv, .ref av, .int (nI vs.length)])), (av, .inl (Y.2.1 2, cv, .inr (.inr (.inr (.inr (fun k => vs[k]?)))))), (kl, .inr (11, [.int mk, .ref ak, .int (nI ks.length)])), (co, .inl (Y.2.1 4, 6, .inr (.inr (.inr (.inr (fun l => some (ca l)))))))] ++ (KT Y ak ck ks ++ va_pl L f)) H locs → W p₀ l e₀ rmX5_placeOf s m args below meth c₀ H locs (0) (0) Q (F0 m 2 ls []) := by
    intro d
    induction d with
    | zero => intro k H locs ls hk hfu; exact absurd hfu (by omega)
    | succ d ih =>
      intro k H locs ls hk hfu hl hW
      refine lv_iload_n hx hb dX5_placeOf_2 rfl (lv_at hl 0 rfl) ?_
      refine lv_aload_n hx hb dX5_placeOf_3 rfl (lv_at hl 1 rfl) ?_
      refine g_ X hinX5 hW 0 rfl rfl 0 (by decide) 1 rfl rfl rfl dX5_placeOf_4 ?_
      refine rF_ (As := []) (rest := [.int (nI k)]) (wc := [(vl, .inr (11, [.int mv, .ref av, .int (nI vs.length)]))]) (w9 := [(rb, .inr (5, [.ref vl, .ref kl, .ref co, .int ru, .int mo, .int lk, .int wn, .int qu, .int bu])), (av, .inl (Y.2.1 2, cv, .inr (.inr (.inr (.inr (fun k => vs[k]?)))))), (kl, .inr (11, [.int mk, .ref ak, .int (nI ks.length)])), (co, .inl (Y.2.1 4, 6, .inr (.inr (.inr (.inr (fun l => some (ca l)))))))] ++ (KT Y ak ck ks ++ va_pl L f)) X 0 (kJx4a65c_size_8abf5 l Dd Y vl mv (nI vs.length) (.ref av)) gX5_placeOf_Jx4a65c_size_8abf5_f24Jx4a65c rfl rfl rfl (by decide +kernel) (by decide +kernel) ⟨(Nat.le_of_ble_eq_true rfl), (Nat.le_of_ble_eq_true rfl)⟩ hW (pmq25 _ _ _ _ _ _) 0 11 rfl rfl rfl rfl hl.1 rfl (Nat.le_of_ble_eq_true rfl) dX5_placeOf_7 ⟨(Nat.le_of_ble_eq_true rfl), (Nat.le_of_ble_eq_true rfl)⟩ (fun rv wq H locs hp hW => ?_)
      obtain ⟨rfl, rfl⟩ := hp
      have hW : Wd Dd A s.heap ([(vl, .inr (11, [.int mv, .ref av, .int (nI vs.length)])), (rb, .inr (5, [.ref vl, .ref kl, .ref co, .int ru, .int mo, .int lk, .int wn, .int qu, .int bu])), (av, .inl (Y.2.1 2, cv, .inr (.inr (.inr (.inr (fun k => vs[k]?)))))), (kl, .inr (11, [.int mk, .ref ak, .int (nI ks.length)])), (co, .inl (Y.2.1 4, 6, .inr (.inr (.inr (.inr (fun l => some (ca l)))))))] ++ (KT Y ak ck ks ++ va_pl L f)) H locs := hW
      have hW : Wd Dd A s.heap ([(rb, .inr (5, [.ref vl, .ref kl, .ref co, .int ru, .int mo, .int lk, .int wn, .int qu, .int bu])), (vl, .inr (11, [.int mv, .ref av, .int (nI vs.length)])), (av, .inl (Y.2.1 2, cv, .inr (.inr (.inr (.inr (fun k => vs[k]?)))))), (kl, .inr (11, [.int mk, .ref ak, .int (nI ks.length)])), (co, .inl (Y.2.1 4, 6, .inr (.inr (.inr (.inr (fun l => some (ca l)))))))] ++ (KT Y ak ck ks ++ va_pl L f)) H locs := hW.permA (pmq26 _ _ _ _ _ _)
      refine W.eq (g2 := F0 m 12 ls [.int (nI vs.length), .int (nI k)]) rfl ?_
      refine lv_icmp_ge (tgt := 35) hx hb dX5_placeOf_12 (by decide) (fun h => absurd h (fun h => absurd ((nI_leI (by omega) (by omega)).mp h) (by omega))) (fun _ => ?_)
      refine lv_aload_n hx hb dX5_placeOf_15 rfl (lv_at hl 1 rfl) ?_
      refine g_ X hinX5 hW 0 rfl rfl 0 (by decide) 1 rfl rfl rfl dX5_placeOf_16 ?_
      refine lv_iload_n hx hb dX5_placeOf_19 rfl (lv_at hl 0 rfl) ?_
      obtain ⟨v, hv⟩ := vs_at (vs := vs) (p := k) (by omega)
      refine rF_ (As := [.int (nI k)]) (rest := []) (wc := [(vl, .inr (11, [.int mv, .ref av, .int (nI vs.length)])), (av, .inl (Y.2.1 2, cv, .inr (.inr (.inr (.inr (fun k => vs[k]?))))))]) (w9 := [(rb, .inr (5, [.ref vl, .ref kl, .ref co, .int ru, .int mo, .int lk, .int wn, .int qu, .int bu])), (kl, .inr (11, [.int mk, .ref ak, .int (nI ks.length)])), (co, .inl (Y.2.1 4, 6, .inr (.inr (.inr (.inr (fun l => some (ca l)))))))] ++ (KT Y ak ck ks ++ va_pl L f)) X 1 (kJx4a65c_get_915e3 l Dd Y vl av cv vs.length k mv (fun k => vs[k]?) (by omega) hC.1 (by omega)) gX5_placeOf_Jx4a65c_get_915e3_f30Jx4a65c rfl rfl rfl (by decide +kernel) (by decide +kernel) ⟨(Nat.le_of_ble_eq_true rfl), (Nat.le_of_ble_eq_true rfl)⟩ hW (pmq27 _ _ _ _ _ _) 0 11 rfl rfl rfl rfl hl.1 rfl (Nat.le_of_ble_eq_true rfl) dX5_placeOf_20 ⟨(Nat.le_of_ble_eq_true rfl), (Nat.le_of_ble_eq_true rfl)⟩ (fun rv wq H locs hp hW => ?_)
      obtain ⟨rfl, rfl⟩ := hp
      have hW : Wd Dd A s.heap ([(vl, .inr (11, [.int mv, .ref av, .int (nI vs.length)])), (av, .inl (Y.2.1 2, cv, .inr (.inr (.inr (.inr (fun k => vs[k]?)))))), (rb, .inr (5, [.ref vl, .ref kl, .ref co, .int ru, .int mo, .int lk, .int wn, .int qu, .int bu])), (kl, .inr (11, [.int mk, .ref ak, .int (nI ks.length)])), (co, .inl (Y.2.1 4, 6, .inr (.inr (.inr (.inr (fun l => some (ca l)))))))] ++ (KT Y ak ck ks ++ va_pl L f)) H locs := hW
      have hW : Wd Dd A s.heap ([(rb, .inr (5, [.ref vl, .ref kl, .ref co, .int ru, .int mo, .int lk, .int wn, .int qu, .int bu])), (vl, .inr (11, [.int mv, .ref av, .int (nI vs.length)])), (av, .inl (Y.2.1 2, cv, .inr (.inr (.inr (.inr (fun k => vs[k]?)))))), (kl, .inr (11, [.int mk, .ref ak, .int (nI ks.length)])), (co, .inl (Y.2.1 4, 6, .inr (.inr (.inr (.inr (fun l => some (ca l)))))))] ++ (KT Y ak ck ks ++ va_pl L f)) H locs := hW.permA (pmq28 _ _ _ _ _ _)
      refine W.eq (g2 := F0 m 25 ls [va_rf vs[k]?]) rfl ?_
      rw [hv]
      refine W.eq (g2 := F0 m 25 ls [.ref v]) rfl ?_
      refine lv_aload_n hx hb dX5_placeOf_25 rfl (lv_at hl 2 rfl) ?_
      refine lv_acmp_eq (rx := some v) (ry := some a) (tgt := 35) hx hb dX5_placeOf_26 (by decide) (fun cq => ?_) (fun cq => ?_)
      · have e : k = i := vs_inj hnd (hv.trans cq) hi
        refine lv_iload_n hx hb dX5_placeOf_35 rfl (lv_at hl 0 rfl) ?_
        exact hI _ _ _ _ _ _ _ _ _ ⟨by rw [e], rfl⟩ rfl rfl (Nat.le_of_ble_eq_true rfl) (Nat.le_of_ble_eq_true rfl) hW dX5_placeOf_36
      · refine lv_iinc (v := (nI k) + 1) (lv' := [(2, .int ((nI k) + 1)), (0, .ref rb), (1, .ref a)]) hx hb dX5_placeOf_29 hl (k := 0) rfl rfl (by decide) rfl (fun ls hl => ?_)
        rw [nI_1] at hl
        refine lv_goto (tgt := 2) hx hb dX5_placeOf_32 (by decide) ?_
        have hne : k ≠ i := fun e => cq (hv.symm.trans (e ▸ hi))
        exact ih (k + 1) _ _ _ (by omega) (by omega) hl hW
  exact lp (i + 1) 0 _ _ _ (Nat.zero_le _) (by omega) hl hW
theorem lmS_le {g : Nat → Int32} {a k : Nat} (h : a ≤ k) (e : g (12 + lm g a (k - 1 - a)) ≤ g (12 + k)) : lm g a (k - a) = lm g a (k - 1 - a) := by
  rcases Nat.lt_or_ge a k with q | q
  · obtain ⟨d, rfl⟩ : ∃ d, k = a + (d + 1) := ⟨k - a - 1, by omega⟩
    rw [show a + (d + 1) - 1 - a = d by omega] at e ⊢
    rw [show a + (d + 1) - a = d + 1 by omega, lm, if_pos e]
  · rw [show k - a = 0 by omega, show k - 1 - a = 0 by omega]
theorem lmS_gt {g : Nat → Int32} {a k : Nat} (h : a ≤ k) (e : ¬ g (12 + lm g a (k - 1 - a)) ≤ g (12 + k)) : lm g a (k - a) = k := by
  rcases Nat.lt_or_ge a k with q | q
  · obtain ⟨d, rfl⟩ : ∃ d, k = a + (d + 1) := ⟨k - a - 1, by omega⟩
    rw [show a + (d + 1) - 1 - a = d by omega] at e
    rw [show a + (d + 1) - a = d + 1 by omega, lm, if_neg e]
  · rw [show k - a = 0 by omega, lm]; omega
theorem lm_n {g : Nat → Int32} {a d n : Nat} (h : a + d < n) : lm g a d < n := by have := lm_b g a d; omega
def NG (vs : List Nat) (f : Nat → va_E) (g : Nat → Int32) : Prop := ∀ p v : Nat, vs[p]? = some v → g (12 + p) = nuA (f v)
abbrev rmX5_least : Room := { frames := 3, cells := 0, slots := 0, locals := 64 }
set_option maxRecDepth 100000 in
set_option maxHeartbeats 4000000 in
theorem kX5_least (l : Launch) (Dd : va_G) (Y : yT) (rb vl kl co av cv ak ck : Nat) (ca : Nat → Nat) (vs ks L : List Nat) (f : Nat → va_E) (ru mo lk wn qu bu mv mk : Int32) (fr to : Nat) (g : Nat → Int32) (hg : NG vs f g) (hC : vs.length ≤ cv ∧ cv ≤ 600) (hvo : VO L vs f) (h1 : fr ≤ to) (h2 : to < vs.length) : MR l yX5_least wsX5_least rmX5_least Dd Y [.ref rb, .int (nI fr), .int (nI to)] ([(rb, .inr (5, [.ref vl, .ref kl, .ref co, .int ru, .int mo, .int lk, .int wn, .int qu, .int bu])), (vl, .inr (11, [.int mv, .ref av, .int (nI vs.length)])), (av, .inl (Y.2.1 2, cv, .inr (.inr (.inr (.inr (fun k => vs[k]?)))))), (kl, .inr (11, [.int mk, .ref ak, .int (nI ks.length)])), (co, .inl (Y.2.1 4, 6, .inr (.inr (.inr (.inr (fun l => some (ca l)))))))] ++ (KT Y ak ck ks ++ va_pl L f)) (fun rv w => rv = some (va_rf vs[lm g fr (to - fr)]?) ∧ w = [(rb, .inr (5, [.ref vl, .ref kl, .ref co, .int ru, .int mo, .int lk, .int wn, .int qu, .int bu])), (vl, .inr (11, [.int mv, .ref av, .int (nI vs.length)])), (av, .inl (Y.2.1 2, cv, .inr (.inr (.inr (.inr (fun k => vs[k]?)))))), (kl, .inr (11, [.int mk, .ref ak, .int (nI ks.length)])), (co, .inl (Y.2.1 4, 6, .inr (.inr (.inr (.inr (fun l => some (ca l)))))))] ++ (KT Y ak ck ks ++ va_pl L f)) 0 0 := by
  refine MRk (cc := cX5_least) (maxL := 5) (ret := (some (.object "DoubledRowsLaw$Value"))) (by decide) rfl (Nat.le_of_ble_eq_true rfl) (fun {p₀ e₀ s m args below meth c₀ A} ls Q X hin hW hl hI hV hA => ?_)
  have hx := X.x
  have hb := X.b
  have hl : lv_has ls 5 [(0, .ref rb), (1, .int (nI fr)), (2, .int (nI to))] := hl
  have hinX5 : ∀ w ∈ wsX50, w ∈ wsX5_least := fun w h => List.mem_cons_of_mem _ (List.mem_append_left _ (List.mem_append_left _ (List.mem_append_right _ h)))
  have hinX7 : ∀ w ∈ wsX70, w ∈ wsX5_least := fun w h => List.mem_cons_of_mem _ (List.mem_append_left _ (List.mem_append_right _ h))
  obtain ⟨v0, hv0⟩ := vs_at (vs := vs) (p := fr) (by omega)
  refine lv_aload_n hx hb dX5_least_0 rfl (lv_at hl 0 rfl) ?_
  refine g_ X hinX5 hW 0 rfl rfl 0 (by decide) 1 rfl rfl rfl dX5_least_1 ?_
  refine lv_iload_n hx hb dX5_least_4 rfl (lv_at hl 1 rfl) ?_
  refine rF_ (As := [.int (nI fr)]) (rest := []) (wc := [(vl, .inr (11, [.int mv, .ref av, .int (nI vs.length)])), (av, .inl (Y.2.1 2, cv, .inr (.inr (.inr (.inr (fun k => vs[k]?))))))]) (w9 := [(rb, .inr (5, [.ref vl, .ref kl, .ref co, .int ru, .int mo, .int lk, .int wn, .int qu, .int bu])), (kl, .inr (11, [.int mk, .ref ak, .int (nI ks.length)])), (co, .inl (Y.2.1 4, 6, .inr (.inr (.inr (.inr (fun l => some (ca l)))))))] ++ (KT Y ak ck ks ++ va_pl L f)) X 1 (kJx4a65c_get_915e3 l Dd Y vl av cv vs.length fr mv (fun k => vs[k]?) (by omega) hC.1 (by omega)) gX5_least_Jx4a65c_get_915e3_f30Jx4a65c rfl rfl rfl (by decide +kernel) (by decide +kernel) ⟨(Nat.le_of_ble_eq_true rfl), (Nat.le_of_ble_eq_true rfl)⟩ hW (pmq27 _ _ _ _ _ _) 0 11 rfl rfl rfl rfl hl.1 rfl (Nat.le_of_ble_eq_true rfl) dX5_least_5 ⟨(Nat.le_of_ble_eq_true rfl), (Nat.le_of_ble_eq_true rfl)⟩ (fun rv wq H locs hp hW => ?_)
  obtain ⟨rfl, rfl⟩ := hp
  have hW : Wd Dd A s.heap ([(vl, .inr (11, [.int mv, .ref av, .int (nI vs.length)])), (av, .inl (Y.2.1 2, cv, .inr (.inr (.inr (.inr (fun k => vs[k]?)))))), (rb, .inr (5, [.ref vl, .ref kl, .ref co, .int ru, .int mo, .int lk, .int wn, .int qu, .int bu])), (kl, .inr (11, [.int mk, .ref ak, .int (nI ks.length)])), (co, .inl (Y.2.1 4, 6, .inr (.inr (.inr (.inr (fun l => some (ca l)))))))] ++ (KT Y ak ck ks ++ va_pl L f)) H locs := hW
  have hW : Wd Dd A s.heap ([(rb, .inr (5, [.ref vl, .ref kl, .ref co, .int ru, .int mo, .int lk, .int wn, .int qu, .int bu])), (vl, .inr (11, [.int mv, .ref av, .int (nI vs.length)])), (av, .inl (Y.2.1 2, cv, .inr (.inr (.inr (.inr (fun k => vs[k]?)))))), (kl, .inr (11, [.int mk, .ref ak, .int (nI ks.length)])), (co, .inl (Y.2.1 4, 6, .inr (.inr (.inr (.inr (fun l => some (ca l)))))))] ++ (KT Y ak ck ks ++ va_pl L f)) H locs := hW.permA (pmq28 _ _ _ _ _ _)
  refine W.eq (g2 := F0 m 10 ls [va_rf vs[fr]?]) rfl ?_
  rw [hv0]
  refine W.eq (g2 := F0 m 10 ls [.ref v0]) rfl ?_
  refine vCa_ X hW (hvo.at hv0) (i := 2) rfl dX5_least_10 ?_
  refine lv_astore_n (lv' := [(3, .ref v0), (0, .ref rb), (1, .int (nI fr)), (2, .int (nI to))]) hx hb dX5_least_13 rfl hl (by decide) rfl (fun ls hl => ?_)
  refine lv_iload_n hx hb dX5_least_14 rfl (lv_at hl 2 rfl) ?_
  refine lv_istore (lv' := [(4, .int (nI fr)), (3, .ref v0), (0, .ref rb), (1, .int (nI fr)), (2, .int (nI to))]) hx hb dX5_least_15 hl (by decide) rfl (fun ls hl => ?_)
  have lp : ∀ (d : Nat) (k : Nat) (b : Nat) (H : Heap) (locs : List Loc) (ls : Array Slot), (hk : fr ≤ k ∧ k ≤ to + 1) → (hbb : vs[lm g fr (k - 1 - fr)]? = some b) → (to + 1 < d + k) → lv_has ls 5 [(4, .int (nI k)), (3, .ref b), (0, .ref rb), (1, .int (nI fr)), (2, .int (nI to))] → Wd Dd A s.heap ([(rb, .inr (5, [.ref vl, .ref kl, .ref co, .int ru, .int mo, .int lk, .int wn, .int qu, .int bu])), (vl, .inr (11, [.int mv, .ref av, .int (nI vs.length)])), (av, .inl (Y.2.1 2, cv, .inr (.inr (.inr (.inr (fun k => vs[k]?)))))), (kl, .inr (11, [.int mk, .ref ak, .int (nI ks.length)])), (co, .inl (Y.2.1 4, 6, .inr (.inr (.inr (.inr (fun l => some (ca l)))))))] ++ (KT Y ak ck ks ++ va_pl L f)) H locs → W p₀ l e₀ rmX5_least s m args below meth c₀ H locs (0) (0) Q (F0 m 17 ls []) := by
    intro d
    induction d with
    | zero => intro k b H locs ls hk hbb hfu; exact absurd hfu (by omega)
    | succ d ih =>
      intro k b H locs ls hk hbb hfu hl hW
      refine lv_iload hx hb dX5_least_17 (lv_at hl 0 rfl) ?_
      refine lv_iload_n hx hb dX5_least_19 rfl (lv_at hl 4 rfl) ?_
      refine lv_icmp_gt (tgt := 68) hx hb dX5_least_20 (by decide) (fun cq => ?_) (fun cq => ?_)
      · have e : k = to + 1 := by have := (nI_ltI (by omega) (by omega)).mp cq; omega
        refine lv_aload_n hx hb dX5_least_68 rfl (lv_at hl 1 rfl) ?_
        exact hA _ _ _ _ _ _ (some b) _ _ ⟨by rw [← hbb, e, Nat.add_sub_cancel], rfl⟩ rfl (Or.inl ⟨_, rfl⟩) (Nat.le_of_ble_eq_true rfl) (Nat.le_of_ble_eq_true rfl) hW dX5_least_69
      · have hle : k ≤ to := Nat.le_of_not_lt (fun h => cq ((nI_ltI (by omega) (by omega)).mpr h))
        obtain ⟨v, hv⟩ := vs_at (vs := vs) (p := k) (by omega)
        have hgk : g (12 + k) = nuA (f v) := hg k v hv
        have hgb : g (12 + lm g fr (k - 1 - fr)) = nuA (f b) := hg _ b hbb
        refine lv_aload_n hx hb dX5_least_23 rfl (lv_at hl 2 rfl) ?_
        refine g_ X hinX5 hW 0 rfl rfl 0 (by decide) 1 rfl rfl rfl dX5_least_24 ?_
        refine lv_iload hx hb dX5_least_27 (lv_at hl 0 rfl) ?_
        refine rF_ (As := [.int (nI k)]) (rest := []) (wc := [(vl, .inr (11, [.int mv, .ref av, .int (nI vs.length)])), (av, .inl (Y.2.1 2, cv, .inr (.inr (.inr (.inr (fun k => vs[k]?))))))]) (w9 := [(rb, .inr (5, [.ref vl, .ref kl, .ref co, .int ru, .int mo, .int lk, .int wn, .int qu, .int bu])), (kl, .inr (11, [.int mk, .ref ak, .int (nI ks.length)])), (co, .inl (Y.2.1 4, 6, .inr (.inr (.inr (.inr (fun l => some (ca l)))))))] ++ (KT Y ak ck ks ++ va_pl L f)) X 1 (kJx4a65c_get_915e3 l Dd Y vl av cv vs.length k mv (fun k => vs[k]?) (by omega) hC.1 (by omega)) gX5_least_Jx4a65c_get_915e3_f30Jx4a65c rfl rfl rfl (by decide +kernel) (by decide +kernel) ⟨(Nat.le_of_ble_eq_true rfl), (Nat.le_of_ble_eq_true rfl)⟩ hW (pmq27 _ _ _ _ _ _) 0 11 rfl rfl rfl rfl hl.1 rfl (Nat.le_of_ble_eq_true rfl) dX5_least_29 ⟨(Nat.le_of_ble_eq_true rfl), (Nat.le_of_ble_eq_true rfl)⟩ (fun rv wq H locs hp hW => ?_)
        obtain ⟨rfl, rfl⟩ := hp
        have hW : Wd Dd A s.heap ([(vl, .inr (11, [.int mv, .ref av, .int (nI vs.length)])), (av, .inl (Y.2.1 2, cv, .inr (.inr (.inr (.inr (fun k => vs[k]?)))))), (rb, .inr (5, [.ref vl, .ref kl, .ref co, .int ru, .int mo, .int lk, .int wn, .int qu, .int bu])), (kl, .inr (11, [.int mk, .ref ak, .int (nI ks.length)])), (co, .inl (Y.2.1 4, 6, .inr (.inr (.inr (.inr (fun l => some (ca l)))))))] ++ (KT Y ak ck ks ++ va_pl L f)) H locs := hW
        have hW : Wd Dd A s.heap ([(rb, .inr (5, [.ref vl, .ref kl, .ref co, .int ru, .int mo, .int lk, .int wn, .int qu, .int bu])), (vl, .inr (11, [.int mv, .ref av, .int (nI vs.length)])), (av, .inl (Y.2.1 2, cv, .inr (.inr (.inr (.inr (fun k => vs[k]?)))))), (kl, .inr (11, [.int mk, .ref ak, .int (nI ks.length)])), (co, .inl (Y.2.1 4, 6, .inr (.inr (.inr (.inr (fun l => some (ca l)))))))] ++ (KT Y ak ck ks ++ va_pl L f)) H locs := hW.permA (pmq28 _ _ _ _ _ _)
        refine W.eq (g2 := F0 m 34 ls [va_rf vs[k]?]) rfl ?_
        rw [hv]
        refine W.eq (g2 := F0 m 34 ls [.ref v]) rfl ?_
        refine vCa_ X hW (hvo.at hv) (i := 2) rfl dX5_least_34 ?_
        refine gVn_ X hinX7 hW (hvo.at hv) dX5_least_37 ?_
        refine lv_aload_n hx hb dX5_least_40 rfl (lv_at hl 1 rfl) ?_
        refine gVn_ X hinX7 hW (hvo.at hbb) dX5_least_41 ?_
        refine lv_icmp_ge (tgt := 62) hx hb dX5_least_44 (by decide) (fun cn => ?_) (fun cn => ?_)
        · refine lv_iinc (v := (nI k) + 1) (lv' := [(4, .int ((nI k) + 1)), (3, .ref b), (0, .ref rb), (1, .int (nI fr)), (2, .int (nI to))]) hx hb dX5_least_62 hl (k := 0) rfl rfl (by decide) rfl (fun ls hl => ?_)
          rw [nI_1] at hl
          refine lv_goto (tgt := 17) hx hb dX5_least_65 (by decide) ?_
          exact ih (k + 1) b _ _ _ ⟨by omega, by omega⟩ (by rw [Nat.add_sub_cancel, lmS_le hk.1 (by rw [hgb, hgk]; exact cn)]; exact hbb) (by omega) hl hW
        · refine lv_aload_n hx hb dX5_least_47 rfl (lv_at hl 2 rfl) ?_
          refine g_ X hinX5 hW 0 rfl rfl 0 (by decide) 1 rfl rfl rfl dX5_least_48 ?_
          refine lv_iload hx hb dX5_least_51 (lv_at hl 0 rfl) ?_
          refine rF_ (As := [.int (nI k)]) (rest := []) (wc := [(vl, .inr (11, [.int mv, .ref av, .int (nI vs.length)])), (av, .inl (Y.2.1 2, cv, .inr (.inr (.inr (.inr (fun k => vs[k]?))))))]) (w9 := [(rb, .inr (5, [.ref vl, .ref kl, .ref co, .int ru, .int mo, .int lk, .int wn, .int qu, .int bu])), (kl, .inr (11, [.int mk, .ref ak, .int (nI ks.length)])), (co, .inl (Y.2.1 4, 6, .inr (.inr (.inr (.inr (fun l => some (ca l)))))))] ++ (KT Y ak ck ks ++ va_pl L f)) X 1 (kJx4a65c_get_915e3 l Dd Y vl av cv vs.length k mv (fun k => vs[k]?) (by omega) hC.1 (by omega)) gX5_least_Jx4a65c_get_915e3_f30Jx4a65c rfl rfl rfl (by decide +kernel) (by decide +kernel) ⟨(Nat.le_of_ble_eq_true rfl), (Nat.le_of_ble_eq_true rfl)⟩ hW (pmq27 _ _ _ _ _ _) 0 11 rfl rfl rfl rfl hl.1 rfl (Nat.le_of_ble_eq_true rfl) dX5_least_53 ⟨(Nat.le_of_ble_eq_true rfl), (Nat.le_of_ble_eq_true rfl)⟩ (fun rv wq H locs hp hW => ?_)
          obtain ⟨rfl, rfl⟩ := hp
          have hW : Wd Dd A s.heap ([(vl, .inr (11, [.int mv, .ref av, .int (nI vs.length)])), (av, .inl (Y.2.1 2, cv, .inr (.inr (.inr (.inr (fun k => vs[k]?)))))), (rb, .inr (5, [.ref vl, .ref kl, .ref co, .int ru, .int mo, .int lk, .int wn, .int qu, .int bu])), (kl, .inr (11, [.int mk, .ref ak, .int (nI ks.length)])), (co, .inl (Y.2.1 4, 6, .inr (.inr (.inr (.inr (fun l => some (ca l)))))))] ++ (KT Y ak ck ks ++ va_pl L f)) H locs := hW
          have hW : Wd Dd A s.heap ([(rb, .inr (5, [.ref vl, .ref kl, .ref co, .int ru, .int mo, .int lk, .int wn, .int qu, .int bu])), (vl, .inr (11, [.int mv, .ref av, .int (nI vs.length)])), (av, .inl (Y.2.1 2, cv, .inr (.inr (.inr (.inr (fun k => vs[k]?)))))), (kl, .inr (11, [.int mk, .ref ak, .int (nI ks.length)])), (co, .inl (Y.2.1 4, 6, .inr (.inr (.inr (.inr (fun l => some (ca l)))))))] ++ (KT Y ak ck ks ++ va_pl L f)) H locs := hW.permA (pmq28 _ _ _ _ _ _)
          refine W.eq (g2 := F0 m 58 ls [va_rf vs[k]?]) rfl ?_
          rw [hv]
          refine W.eq (g2 := F0 m 58 ls [.ref v]) rfl ?_
          refine vCa_ X hW (hvo.at hv) (i := 2) rfl dX5_least_58 ?_
          refine lv_astore_n (lv' := [(3, .ref v), (4, .int (nI k)), (0, .ref rb), (1, .int (nI fr)), (2, .int (nI to))]) hx hb dX5_least_61 rfl hl (by decide) rfl (fun ls hl => ?_)
          refine lv_iinc (v := (nI k) + 1) (lv' := [(4, .int ((nI k) + 1)), (3, .ref v), (0, .ref rb), (1, .int (nI fr)), (2, .int (nI to))]) hx hb dX5_least_62 hl (k := 1) rfl rfl (by decide) rfl (fun ls hl => ?_)
          rw [nI_1] at hl
          refine lv_goto (tgt := 17) hx hb dX5_least_65 (by decide) ?_
          exact ih (k + 1) v _ _ _ ⟨by omega, by omega⟩ (by rw [Nat.add_sub_cancel, lmS_gt hk.1 (by rw [hgb, hgk]; exact cn)]; exact hv) (by omega) hl hW
  exact lp (to + 2) fr v0 _ _ _ ⟨Nat.le_refl _, by omega⟩ (by rw [show fr - 1 - fr = 0 by omega]; exact hv0) (by omega) hl hW
theorem nI_dbl (a : Nat) : nI a * 2 = nI (a * 2) := (Int32.ofNat_mul a 2).symm
abbrev rmX5_write : Room := { frames := 4, cells := 0, slots := 0, locals := 88 }
set_option maxRecDepth 100000 in
set_option maxHeartbeats 4000000 in
theorem kX5_write (l : Launch) (Dd : va_G) (Y : yT) (rb vl kl co av cv ak ck : Nat) (ca : Nat → Nat) (vs ks L : List Nat) (f : Nat → va_E) (ru mo lk wn qu bu mv mk : Int32) (lv pl : Nat) (g : Nat → Int32) (hg : NG vs f g) (hC : vs.length ≤ cv ∧ cv ≤ 600) (hvo : VO L vs f) (hO : CO Y L ca f) (h1 : 1 ≤ lv ∧ lv ≤ 5) (h2 : pl + 2 ^ lv ≤ vs.length) (h3 : vs.length ≤ 40) : MR l yX5_write wsX5_write rmX5_write Dd Y [.ref rb, .int (nI lv), .int (nI pl)] ([(rb, .inr (5, [.ref vl, .ref kl, .ref co, .int ru, .int mo, .int lk, .int wn, .int qu, .int bu])), (vl, .inr (11, [.int mv, .ref av, .int (nI vs.length)])), (av, .inl (Y.2.1 2, cv, .inr (.inr (.inr (.inr (fun k => vs[k]?)))))), (kl, .inr (11, [.int mk, .ref ak, .int (nI ks.length)])), (co, .inl (Y.2.1 4, 6, .inr (.inr (.inr (.inr (fun l => some (ca l)))))))] ++ (KT Y ak ck ks ++ va_pl L f)) (fun rv w => ∃ v : Nat, vs[lm g pl (2 ^ lv - 1)]? = some v ∧ rv = none ∧ w = [(rb, .inr (5, [.ref vl, .ref kl, .ref co, .int ru, .int mo, .int lk, .int (wn + 1), .int qu, .int bu])), (vl, .inr (11, [.int mv, .ref av, .int (nI vs.length)])), (av, .inl (Y.2.1 2, cv, .inr (.inr (.inr (.inr (fun k => vs[k]?)))))), (kl, .inr (11, [.int mk, .ref ak, .int (nI ks.length)])), (co, .inl (Y.2.1 4, 6, .inr (.inr (.inr (.inr (fun l => some (ca l)))))))] ++ (KT Y ak ck ks ++ va_pl L (va_up f (ca lv) (cE Y (va_up (clA (f (ca lv))) pl (some v)))))) 0 0 := by
  refine MRk (cc := cX5_write) (maxL := 5) (ret := none) (by decide) rfl (Nat.le_of_ble_eq_true rfl) (fun {p₀ e₀ s m args below meth c₀ A} ls Q X hin hW hl hI hV hA => ?_)
  have hx := X.x
  have hb := X.b
  have hl : lv_has ls 5 [(0, .ref rb), (1, .int (nI lv)), (2, .int (nI pl))] := hl
  have hinX5 : ∀ w ∈ wsX50, w ∈ wsX5_write := fun w h => List.mem_cons_of_mem _ (List.mem_append_left _ (List.mem_append_left _ (List.mem_append_right _ h)))
  have hp2 : 0 < 2 ^ lv := Nat.two_pow_pos lv
  refine lv_iconst (v := 1) hx hb dX5_write_0 (by decide) ?_
  refine lv_istore_n (lv' := [(3, .int 1), (0, .ref rb), (1, .int (nI lv)), (2, .int (nI pl))]) hx hb dX5_write_1 rfl hl (by decide) rfl (fun ls hl => ?_)
  refine lv_iconst (v := 0) hx hb dX5_write_2 (by decide) ?_
  refine lv_istore (lv' := [(4, .int 0), (3, .int 1), (0, .ref rb), (1, .int (nI lv)), (2, .int (nI pl))]) hx hb dX5_write_3 hl (by decide) rfl (fun ls hl => ?_)
  have lp : ∀ (d : Nat) (j : Nat) (H : Heap) (locs : List Loc) (ls : Array Slot), (hj : j ≤ lv) → (lv < d + j) → lv_has ls 5 [(4, .int (nI j)), (3, .int (nI (2 ^ j))), (0, .ref rb), (1, .int (nI lv)), (2, .int (nI pl))] → Wd Dd A s.heap ([(rb, .inr (5, [.ref vl, .ref kl, .ref co, .int ru, .int mo, .int lk, .int wn, .int qu, .int bu])), (vl, .inr (11, [.int mv, .ref av, .int (nI vs.length)])), (av, .inl (Y.2.1 2, cv, .inr (.inr (.inr (.inr (fun k => vs[k]?)))))), (kl, .inr (11, [.int mk, .ref ak, .int (nI ks.length)])), (co, .inl (Y.2.1 4, 6, .inr (.inr (.inr (.inr (fun l => some (ca l)))))))] ++ (KT Y ak ck ks ++ va_pl L f)) H locs → W p₀ l e₀ rmX5_write s m args below meth c₀ H locs (0) (0) Q (F0 m 5 ls []) := by
    intro d
    induction d with
    | zero => intro j H locs ls hj hfu; exact absurd hfu (by omega)
    | succ d ih =>
      intro j H locs ls hj hfu hl hW
      refine lv_iload hx hb dX5_write_5 (lv_at hl 0 rfl) ?_
      refine lv_iload_n hx hb dX5_write_7 rfl (lv_at hl 3 rfl) ?_
      refine lv_icmp_ge (tgt := 21) hx hb dX5_write_8 (by decide) (fun cq => ?_) (fun cq => ?_)
      · have e : j = lv := by have := (nI_leI (by omega) (by omega)).mp cq; omega
        rw [e] at hl
        refine lv_aload_n hx hb dX5_write_21 rfl (lv_at hl 2 rfl) ?_
        refine g_ X hinX5 hW 0 rfl rfl 2 (by decide) 1 rfl rfl rfl dX5_write_22 ?_
        refine lv_iload_n hx hb dX5_write_25 rfl (lv_at hl 3 rfl) ?_
        refine aO_ X hW 4 rfl (vp_in_nI (by omega) (by decide)) dX5_write_26 ?_
        rw [nI_clamp (by omega)]
        refine W.eq (g2 := F0 m 27 ls [.ref (ca lv)]) rfl ?_
        refine lv_iload_n hx hb dX5_write_27 rfl (lv_at hl 4 rfl) ?_
        refine lv_aload_n hx hb dX5_write_28 rfl (lv_at hl 2 rfl) ?_
        refine lv_iload_n hx hb dX5_write_29 rfl (lv_at hl 4 rfl) ?_
        refine lv_iload_n hx hb dX5_write_30 rfl (lv_at hl 4 rfl) ?_
        refine lv_iload_n hx hb dX5_write_31 rfl (lv_at hl 1 rfl) ?_
        refine lv_iadd hx hb dX5_write_32 ?_
        refine lv_iconst (v := 1) hx hb dX5_write_33 (by decide) ?_
        refine lv_isub hx hb dX5_write_34 ?_
        rw [show nI pl + nI (2 ^ lv) - 1 = nI (pl + 2 ^ lv - 1) from by rw [nI_add]; exact pk_sub (b := 1) (by omega)]
        refine rV_ (As := [.int (nI pl), .int (nI (pl + 2 ^ lv - 1))]) (rest := [.int (nI pl), .ref (ca lv)]) (wc := [(rb, .inr (5, [.ref vl, .ref kl, .ref co, .int ru, .int mo, .int lk, .int wn, .int qu, .int bu])), (vl, .inr (11, [.int mv, .ref av, .int (nI vs.length)])), (av, .inl (Y.2.1 2, cv, .inr (.inr (.inr (.inr (fun k => vs[k]?)))))), (kl, .inr (11, [.int mk, .ref ak, .int (nI ks.length)])), (co, .inl (Y.2.1 4, 6, .inr (.inr (.inr (.inr (fun l => some (ca l)))))))] ++ (KT Y ak ck ks ++ va_pl L f)) (w9 := []) X (kX5_least l Dd Y rb vl kl co av cv ak ck ca vs ks L f ru mo lk wn qu bu mv mk pl (pl + 2 ^ lv - 1) g hg hC hvo (by omega) (by omega)) (cwV 2 X.1.2.2.2.2 gX5_write_X5_least rfl rfl rfl (by decide +kernel) ⟨(Nat.le_of_ble_eq_true rfl), (Nat.le_of_ble_eq_true rfl)⟩) hW (pmq29 _ _ _ _ _ _) 0 5 rfl rfl rfl rfl hl.1 rfl (Nat.le_of_ble_eq_true rfl) dX5_write_35 ⟨(Nat.le_of_ble_eq_true rfl), (Nat.le_of_ble_eq_true rfl)⟩ (fun rv wq H locs hp hW => ?_)
        obtain ⟨rfl, rfl⟩ := hp
        have hW : Wd Dd A s.heap ([(rb, .inr (5, [.ref vl, .ref kl, .ref co, .int ru, .int mo, .int lk, .int wn, .int qu, .int bu])), (vl, .inr (11, [.int mv, .ref av, .int (nI vs.length)])), (av, .inl (Y.2.1 2, cv, .inr (.inr (.inr (.inr (fun k => vs[k]?)))))), (kl, .inr (11, [.int mk, .ref ak, .int (nI ks.length)])), (co, .inl (Y.2.1 4, 6, .inr (.inr (.inr (.inr (fun l => some (ca l)))))))] ++ (KT Y ak ck ks ++ va_pl L f)) H locs := by rw [List.append_nil] at hW; exact hW
        refine W.eq (g2 := F0 m 38 ls [va_rf vs[lm g pl (pl + 2 ^ lv - 1 - pl)]?, .int (nI pl), .ref (ca lv)]) rfl ?_
        obtain ⟨v, hv⟩ := vs_at (vs := vs) (p := lm g pl (2 ^ lv - 1)) (lm_n (by omega))
        have hv2 : vs[lm g pl (pl + 2 ^ lv - 1 - pl)]? = some v := by rw [show pl + 2 ^ lv - 1 - pl = 2 ^ lv - 1 by omega]; exact hv
        rw [hv2]
        refine W.eq (g2 := F0 m 38 ls [.ref v, .int (nI pl), .ref (ca lv)]) rfl ?_
        refine asC_ X hW (hO.1 lv (by omega)) (hvo.at hv) (vp_in_nI (by omega) (by decide)) dX5_write_38 (fun H locs hW => ?_)
        rw [nI_clamp (by omega)] at hW
        have hW : Wd Dd A s.heap ([(rb, .inr (5, [.ref vl, .ref kl, .ref co, .int ru, .int mo, .int lk, .int wn, .int qu, .int bu])), (vl, .inr (11, [.int mv, .ref av, .int (nI vs.length)])), (av, .inl (Y.2.1 2, cv, .inr (.inr (.inr (.inr (fun k => vs[k]?)))))), (kl, .inr (11, [.int mk, .ref ak, .int (nI ks.length)])), (co, .inl (Y.2.1 4, 6, .inr (.inr (.inr (.inr (fun l => some (ca l)))))))] ++ (KT Y ak ck ks ++ va_pl L (va_up f (ca lv) (cE Y (va_up (clA (f (ca lv))) pl (some v)))))) H locs := hW
        refine lv_aload_n hx hb dX5_write_39 rfl (lv_at hl 2 rfl) ?_
        refine lv_dup hx hb dX5_write_40 rfl ?_
        refine g_ X hinX5 hW 0 rfl rfl 6 (by decide) 2 rfl rfl rfl dX5_write_41 ?_
        refine lv_iconst (v := 1) hx hb dX5_write_44 (by decide) ?_
        refine lv_iadd hx hb dX5_write_45 ?_
        refine p_ (ty := .int) X hinX5 tyX5 tyX5_ok nmX5 hW 0 rfl rfl 6 (by decide) 2 rfl rfl rfl (by decide +kernel) rfl rfl (Nat.le_of_ble_eq_true rfl) dX5_write_46 (ws' := [(rb, .inr (5, [.ref vl, .ref kl, .ref co, .int ru, .int mo, .int lk, .int (wn + 1), .int qu, .int bu])), (vl, .inr (11, [.int mv, .ref av, .int (nI vs.length)])), (av, .inl (Y.2.1 2, cv, .inr (.inr (.inr (.inr (fun k => vs[k]?)))))), (kl, .inr (11, [.int mk, .ref ak, .int (nI ks.length)])), (co, .inl (Y.2.1 4, 6, .inr (.inr (.inr (.inr (fun l => some (ca l)))))))] ++ (KT Y ak ck ks ++ va_pl L (va_up f (ca lv) (cE Y (va_up (clA (f (ca lv))) pl (some v)))))) rfl (fun H locs hW => ?_)
        exact hV _ _ _ _ _ _ _ ⟨v, hv, rfl, rfl⟩ rfl (Nat.le_of_ble_eq_true rfl) (Nat.le_of_ble_eq_true rfl) hW dX5_write_49
      · have hlt : j < lv := Nat.lt_of_not_le (fun h => cq ((nI_leI (by omega) (by omega)).mpr h))
        refine lv_iload_n hx hb dX5_write_11 rfl (lv_at hl 1 rfl) ?_
        refine lv_iconst (v := 2) hx hb dX5_write_12 (by decide) ?_
        refine lv_imul hx hb dX5_write_13 ?_
        rw [nI_dbl]
        refine lv_istore_n (lv' := [(3, .int (nI (2 ^ j * 2))), (4, .int (nI j)), (0, .ref rb), (1, .int (nI lv)), (2, .int (nI pl))]) hx hb dX5_write_14 rfl hl (by decide) rfl (fun ls hl => ?_)
        refine lv_iinc (v := (nI j) + 1) (lv' := [(4, .int ((nI j) + 1)), (3, .int (nI (2 ^ j * 2))), (0, .ref rb), (1, .int (nI lv)), (2, .int (nI pl))]) hx hb dX5_write_15 hl (k := 1) rfl rfl (by decide) rfl (fun ls hl => ?_)
        rw [nI_1] at hl
        refine lv_goto (tgt := 5) hx hb dX5_write_18 (by decide) ?_
        exact ih (j + 1) _ _ _ (by omega) (by omega) hl hW
  exact lp (lv + 1) 0 _ _ _ (Nat.zero_le _) (by omega) hl hW
