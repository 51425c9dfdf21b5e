/-! the law's row against a reference row: a stretch kept -/
theorem up_ne {f : Nat → va_E} {q z : Nat} {e : va_E} (h : z ≠ q) : va_up f q e z = f z := if_neg h
theorem LG.keep {V : gX} {Y : yT} {vs ks L : List Nat} {ca : Nat → Nat} {f : Nat → va_E} {ru mo lk wn qu bu : Int32} {g : Nat → Int32} {Pk : kL} {a b va vb q : Nat} (h : LG vs ks ca f ru mo lk wn qu bu g Pk) (hK : KK V g vs.length ks.length) (hvo : VO L vs f) (hS : SO L ks f) (hO : CO Y L ca f) (hab : a ≤ b) (ha0 : vs[a]? = some va) (hb0 : vs[b]? = some vb) (h8 : ks.length < 8) (hq : q ∉ L) : (∃ (V' : gX) (g' : Nat → Int32), dnX4_keep V (nI a) (nI b) = some (.inr (nI (ks.length + 1), V')) ∧ KK V' g' vs.length (ks ++ [q]).length ∧ LG vs (ks ++ [q]) ca (va_up f q (sE va vb)) ru mo lk wn qu bu g' (Pk ++ [(a, b)])) ∧ VO (L ++ [q]) vs (va_up f q (sE va vb)) ∧ SO (L ++ [q]) (ks ++ [q]) (va_up f q (sE va vb)) ∧ CO Y (L ++ [q]) ca (va_up f q (sE va vb)) := by
  obtain ⟨⟨h1, h2⟩, hc, ⟨i1, i2, i3, i4, i5, i6⟩, hR, hl, hv, hk⟩ := h
  have n40 := hK.1.1.2.1
  have hb := (List.getElem?_eq_some_iff.mp hb0).1
  have hnv : ∀ z ∈ vs, z ≠ q := fun z hz e => hq (e ▸ (hvo.2 z hz).1)
  have hnk : ∀ z ∈ ks, z ≠ q := fun z hz e => hq (e ▸ (hS.2 z hz).1)
  have hnc : ∀ l, l < 6 → ca l ≠ q := fun l hl e => hq (e ▸ (hO.1 l hl).1)
  obtain ⟨V', g', e4, hK', hL', hg'⟩ := kk_keep hK hR hl hv hab hb h8
  have hll : (ks ++ [q]).length = ks.length + 1 := by rw [List.length_append]; rfl
  refine ⟨⟨V', g', e4, by rw [hll]; exact hK', ⟨fun p z hp => ?_, fun p z hp => ?_⟩, fun l p q1 q5 q2 => ?_, ⟨?_, ?_, ?_, ?_, ?_, ?_⟩, hL', ?_, ?_, fun k z hz => ?_⟩, ⟨hvo.1, fun z hz => ?_⟩, ⟨?_, fun z hz => ?_⟩, hO.ins hq⟩
  · have := (List.getElem?_eq_some_iff.mp hp).1
    rw [hg' _ (by omega) (by omega), up_ne (hnv z (List.mem_of_getElem? hp))]; exact h1 p z hp
  · have := (List.getElem?_eq_some_iff.mp hp).1
    rw [hg' _ (by omega) (by omega), up_ne (hnv z (List.mem_of_getElem? hp))]; exact h2 p z hp
  · have h0 : 0 < 2 ^ l := Nat.two_pow_pos l
    rw [hg' _ (by omega) (by omega), up_ne (hnc l (by omega))]; exact hc l p q1 q5 q2
  · rw [hg' _ (by decide) (by decide)]; exact i1
  · rw [hg' _ (by decide) (by decide)]; exact i2
  · rw [hg' _ (by decide) (by decide)]; exact i3
  · rw [hg' _ (by decide) (by decide)]; exact i4
  · rw [hg' _ (by decide) (by decide)]; exact i5
  · rw [hg' _ (by decide) (by decide)]; exact i6
  · rw [List.length_append, hll, hl]; rfl
  · intro k p1 p2 z
    by_cases e : k < Pk.length
    · rw [List.getElem?_append_left e] at z; exact hv k p1 p2 z
    · rw [List.getElem?_append_right (by omega)] at z
      have hz : k - Pk.length < 1 := kl_lt z
      rw [show k - Pk.length = 0 by omega] at z
      obtain ⟨rfl, rfl⟩ := Prod.mk.inj (Option.some.inj (show some (a, b) = some (p1, p2) from z))
      exact ⟨hab, hb⟩
  · by_cases e : k < ks.length
    · rw [List.getElem?_append_left e] at hz
      obtain ⟨a', b', e1, e2, e3⟩ := hk k z hz
      rw [up_ne (hnk z (List.mem_of_getElem? hz))]
      exact ⟨a', b', by rw [List.getElem?_append_left (by omega)]; exact e1, e2, e3⟩
    · rw [List.getElem?_append_right (by omega)] at hz
      have hz1 : k - ks.length < 1 := (List.getElem?_eq_some_iff.mp hz).1
      rw [show k - ks.length = 0 by omega] at hz
      obtain rfl : q = z := Option.some.inj hz
      rw [up_at]
      exact ⟨a, b, by rw [List.getElem?_append_right (by omega), show k - Pk.length = 0 by omega]; rfl, ha0, hb0⟩
  · exact ⟨List.mem_append_left _ (hvo.2 z hz).1, by rw [up_ne (hnv z hz)]; exact (hvo.2 z hz).2⟩
  · refine List.nodup_append.mpr ⟨hS.1, by simp, fun z hz w hw => ?_⟩
    rw [List.mem_singleton] at hw
    rw [hw]; exact hnk z hz
  · rcases List.mem_append.mp hz with hz | hz
    · exact ⟨List.mem_append_left _ (hS.2 z hz).1, by rw [up_ne (hnk z hz)]; exact (hS.2 z hz).2⟩
    · obtain rfl := List.mem_singleton.mp hz
      exact ⟨List.mem_append_right _ (List.mem_singleton.mpr rfl), by rw [up_at]; exact isS_sE _ _⟩
