/-! RAISING: what is paid to the last coin stays, the others' wages rise a little -/
def lift (w : Nat → Rat) (T : Nat → Bool) (t : Rat) : Nat → Rat := fun l => if T l = true then w l else t * w l
theorem inc_lift {m : Nat} {h w : Nat → Rat} {T X : Nat → Bool} {t : Rat} : inc m h (lift w T t) X = inc m h w (fun l => X l && T l) + t * inc m h w (fun l => X l && !T l) := by
  unfold inc
  rw [← qs_mul, ← qs_add]
  refine qs_congr (fun l _ => ?_)
  cases hX : X l <;> cases hT : T l <;> simp [bq, lift, hX, hT] <;> grind
theorem raise {m g : Nat} {a : Nat → Nat → Rat} {h s w : Nat → Rat} (P : posA m g a h s) (hm : 0 < m) (hV : okV m g a h s w) (hlt : inc m h w (fun _ => true) < qs g s) : ∃ v, okV m g a h s v ∧ inc m h w (fun _ => true) < inc m h v (fun _ => true) := by
  obtain ⟨T, tT, tm⟩ := tight_max (m := m) (g := g) (a := a) (h := h) (s := s) (w := w)
  -- a land out of T
  have hz : ∃ z, z < m ∧ T z = false := by
    by_cases c : ∃ z, z < m ∧ T z = false
    · exact c
    · exfalso
      have e : ∀ l, l < m → T l = (fun _ => true) l := fun l hl => by
        cases hT : T l with
        | true => rfl
        | false => exact absurd ⟨l, hl, hT⟩ c
      rw [inc_congr e, gts_congr e, gts_all hm] at tT
      grind
  obtain ⟨z, hz, tz⟩ := hz
  -- what is strict
  have st1 : ∀ q l k, q < g → l < m → k < m → T l = false → T k = true → hit m a w T q = false → mkr m a w q l = true → a l q * w l < a k q * w k := by
    intro q l k hq hl hk _ tk hn ml
    have e1 := mkr_iff.mp ml k hk
    by_cases e : a l q * w l < a k q * w k
    · exact e
    · exfalso
      have mk : mkr m a w q k = true := mkr_iff.mpr (fun j hj => by have := mkr_iff.mp ml j hj; grind)
      rw [hit_iff.mpr ⟨k, hk, tk, mk⟩] at hn
      cases hn
  have st2 : ∀ X : Nat → Bool, (∃ l, l < m ∧ X l = true ∧ T l = false) → inc m h w (fun l => X l && !T l) < gts m g a s w (fun l => X l || T l) - gts m g a s w T := by
    intro X ⟨l, hl, xl, tl⟩
    have v1 := hV.2 (fun l => X l || T l)
    have ne : inc m h w (fun l => X l || T l) ≠ gts m g a s w (fun l => X l || T l) := by
      intro e
      have c1 := tm _ e
      have c2 := cnt_lt (n := m) (T := T) (U := fun l => X l || T l) (fun k _ hk => by simp [hk]) ⟨l, hl, tl, by simp [xl]⟩
      omega
    have e1 : inc m h w (fun l => X l || T l) = inc m h w T + inc m h w (fun l => X l && !T l) := by
      unfold inc
      rw [← qs_add]
      refine qs_congr (fun k _ => ?_)
      cases hX : X k <;> cases hT : T k <;> simp [bq, hX, hT] <;> grind
    grind
  obtain ⟨t, t1, ht⟩ := ex_lam (((List.range g).flatMap (fun q => (List.range m).flatMap (fun l => (List.range m).map (fun k => if T l = false ∧ T k = true ∧ hit m a w T q = false ∧ mkr m a w q l = true then (a l q * w l, a k q * w k) else (0, 1))))) ++ (allL m).map (fun c => if ∃ l, l < m ∧ c.getD l false = true ∧ T l = false then (inc m h w (fun l => c.getD l false && !T l), gts m g a s w (fun l => c.getD l false || T l) - gts m g a s w T) else (0, 1))) (by
    intro p hp
    rcases List.mem_append.mp hp with hp | hp
    · obtain ⟨q, hq, hp⟩ := List.mem_flatMap.mp hp
      obtain ⟨l, hl, hp⟩ := List.mem_flatMap.mp hp
      obtain ⟨k, hk, rfl⟩ := List.mem_map.mp hp
      have hq := List.mem_range.mp hq
      have hl := List.mem_range.mp hl
      have hk := List.mem_range.mp hk
      split
      · rename_i c
        exact ⟨Rat.le_of_lt (Rat.mul_pos (P.1 l q hl hq) (hV.1 l hl)), st1 q l k hq hl hk c.1 c.2.1 c.2.2.1 c.2.2.2⟩
      · exact ⟨Rat.le_refl, by decide⟩
    · obtain ⟨c, hc, rfl⟩ := List.mem_map.mp hp
      split
      · rename_i cc
        refine ⟨?_, st2 (fun l => c.getD l false) cc⟩
        unfold inc
        exact qs_nonneg (fun l hl => bq_nonneg (Rat.le_of_lt (Rat.mul_pos (P.2.1 l hl) (hV.1 l hl))))
      · exact ⟨Rat.le_refl, by decide⟩)
  have f1 : ∀ q l k, q < g → l < m → k < m → T l = false → T k = true → hit m a w T q = false → mkr m a w q l = true → t * (a l q * w l) ≤ a k q * w k := by
    intro q l k hq hl hk tl tk hn ml
    have := ht _ (List.mem_append_left _ (List.mem_flatMap.mpr ⟨q, List.mem_range.mpr hq, List.mem_flatMap.mpr ⟨l, List.mem_range.mpr hl, List.mem_map.mpr ⟨k, List.mem_range.mpr hk, rfl⟩⟩⟩))
    rw [if_pos ⟨tl, tk, hn, ml⟩] at this
    exact this
  have f2 : ∀ X : Nat → Bool, (∃ l, l < m ∧ X l = true ∧ T l = false) → t * inc m h w (fun l => X l && !T l) ≤ gts m g a s w (fun l => X l || T l) - gts m g a s w T := by
    intro X hX
    obtain ⟨l, hl, xl, tl⟩ := hX
    have gX : ∀ k, k < m → ((List.range m).map X).getD k false = X k := fun k hk => getD_allL X hk
    have := ht _ (List.mem_append_right _ (List.mem_map.mpr ⟨(List.range m).map X, mem_allL X m, rfl⟩))
    rw [if_pos ⟨l, hl, by rw [gX l hl]; exact xl, tl⟩] at this
    rw [inc_congr (U := fun l => X l && !T l) (fun k hk => by rw [gX k hk]), gts_congr (U := fun l => X l || T l) (fun k hk => by rw [gX k hk])] at this
    exact this
  have tp : 0 < t := by grind
  refine ⟨lift w T t, ⟨fun l hl => ?_, fun X => ?_⟩, ?_⟩
  · have := hV.1 l hl
    unfold lift
    split
    · exact this
    · exact Rat.mul_pos tp this
  · -- who makes what behind it
    have keepT : ∀ q l, l < m → T l = true → mkr m a w q l = true → q < g → mkr m a (lift w T t) q l = true := by
      intro q l hl tl ml hq
      refine mkr_iff.mpr (fun k hk => ?_)
      have e := mkr_iff.mp ml k hk
      have p1 := Rat.mul_pos (P.1 k q hk hq) (hV.1 k hk)
      unfold lift
      rw [if_pos tl]
      split
      · exact e
      · have a1 : 0 ≤ (t - 1) * (a k q * w k) := Rat.mul_nonneg (by grind) (Rat.le_of_lt p1)
        grind
    have keepZ : ∀ q l, q < g → l < m → T l = false → hit m a w T q = false → mkr m a w q l = true → mkr m a (lift w T t) q l = true := by
      intro q l hq hl tl hn ml
      refine mkr_iff.mpr (fun k hk => ?_)
      have e := mkr_iff.mp ml k hk
      unfold lift
      rw [if_neg (by rw [tl]; decide)]
      split
      · rename_i tk
        have := f1 q l k hq hl hk tl tk hn ml
        grind
      · have a1 : 0 ≤ t * (a k q * w k - a l q * w l) := Rat.mul_nonneg (Rat.le_of_lt tp) (by grind)
        grind
    have hg : gts m g a s w (fun l => X l && T l) + (gts m g a s w (fun l => X l || T l) - gts m g a s w T) ≤ gts m g a s (lift w T t) X := by
      have k9 : gts m g a s w (fun l => X l && T l) + gts m g a s w (fun l => X l || T l) ≤ gts m g a s (lift w T t) X + gts m g a s w T := by
        unfold gts
        rw [← qs_add, ← qs_add]
        refine qs_le (fun q hq => ?_)
        have hp := P.2.2.1 q hq
        have i1 : hit m a w (fun l => X l && T l) q = true → hit m a (lift w T t) X q = true ∧ hit m a w T q = true := by
          intro hh
          obtain ⟨l, hl, xt, ml⟩ := hit_iff.mp hh
          have xt : X l = true ∧ T l = true := by simpa using xt
          exact ⟨hit_iff.mpr ⟨l, hl, xt.1, keepT q l hl xt.2 ml hq⟩, hit_iff.mpr ⟨l, hl, xt.2, ml⟩⟩
        have i2 : hit m a w (fun l => X l || T l) q = true → hit m a w T q = false → hit m a (lift w T t) X q = true := by
          intro hh hn
          obtain ⟨l, hl, xt, ml⟩ := hit_iff.mp hh
          have tl : T l = false := by
            cases hT : T l with
            | false => rfl
            | true => rw [hit_iff.mpr ⟨l, hl, hT, ml⟩] at hn; cases hn
          have xl : X l = true := by simpa [tl] using xt
          exact hit_iff.mpr ⟨l, hl, xl, keepZ q l hq hl tl hn ml⟩
        cases h1 : hit m a w (fun l => X l && T l) q <;> cases h2 : hit m a w (fun l => X l || T l) q <;> cases h3 : hit m a w T q <;> cases h4 : hit m a (lift w T t) X q <;> simp_all [bq] <;> grind
      grind
    rw [inc_lift]
    have v1 := hV.2 (fun l => X l && T l)
    by_cases c : ∃ l, l < m ∧ X l = true ∧ T l = false
    · have := f2 X c
      grind
    · have e1 : inc m h w (fun l => X l && !T l) = 0 := by
        unfold inc
        rw [← qs_zero (n := m)]
        refine qs_congr (fun l hl => ?_)
        cases hX : X l with
        | false => simp [bq, hX]
        | true =>
          cases hT : T l with
          | true => simp [bq, hX, hT]
          | false => exact absurd ⟨l, hl, hX, hT⟩ c
      have e2 : gts m g a s w T ≤ gts m g a s w (fun l => X l || T l) := by
        unfold gts
        refine qs_le (fun q hq => ?_)
        have hp := P.2.2.1 q hq
        cases h3 : hit m a w T q with
        | false => simp [bq]; split <;> grind
        | true =>
          obtain ⟨l, hl, tl, ml⟩ := hit_iff.mp h3
          rw [hit_iff.mpr ⟨l, hl, by simp [tl], ml⟩]
          exact Rat.le_refl
      rw [e1]
      grind
  · rw [inc_lift]
    have e0 : inc m h w (fun _ => true) = inc m h w (fun l => (fun _ => true) l && T l) + inc m h w (fun l => (fun _ => true) l && !T l) := by
      rw [inc_split T]
      congr 1
    have p0 : 0 < inc m h w (fun l => (fun _ => true) l && !T l) := inc_pos P.2.1 hV.1 hz (by simp [tz])
    have a1 : 0 < (t - 1) * inc m h w (fun l => (fun _ => true) l && !T l) := Rat.mul_pos (by grind) p0
    grind
