/-! THERE IS A REST: the greatest total income -/
theorem qs_shift {n : Nat} {f : Nat → Rat} : qs (n + 1) f = f 0 + qs n (fun i => f (i + 1)) := by
  induction n with
  | zero => show (0 : Rat) + f 0 = f 0 + 0; grind
  | succ n ih =>
    show qs (n + 1) f + f (n + 1) = f 0 + (qs n (fun i => f (i + 1)) + f (n + 1))
    rw [ih]
    grind
theorem qs_one {n l : Nat} {c : Rat} {x : Nat → Rat} (hl : l < n) : qs n (fun i => (if i = l then c else 0) * x i) = c * x l := by
  induction n with
  | zero => omega
  | succ n ih =>
    show qs n (fun i => (if i = l then c else 0) * x i) + (if n = l then c else 0) * x n = _
    by_cases e : n = l
    · subst e
      rw [qs_congr (g := fun _ => 0) (fun i hi => by rw [if_neg (by omega)]; grind), qs_zero]
      simp
      grind
    · rw [ih (by omega), if_neg e]
      grind
/-- by a type: who is said to make what -/
def tyM (m : Nat) (c : List Bool) (q l : Nat) : Bool := c.getD (q * m + l) false
def tyS (m g : Nat) (s : Nat → Rat) (c : List Bool) (T : Nat → Bool) : Rat := qs g (fun q => bq (decide (∃ l, l < m ∧ T l = true ∧ tyM m c q l = true)) (s q))
def cons (m g : Nat) (a : Nat → Nat → Rat) (h s : Nat → Rat) (c : List Bool) : List ((Nat → Rat) × Rat) :=
  [((fun i => if i = 0 then 1 else -(h (i - 1))), (0 : Rat))] ++
  ((List.range m).map (fun l => ((fun i => if i = l + 1 then (-1 : Rat) else 0), (0 : Rat))) ++
  ((List.range g).flatMap (fun q => (List.range m).flatMap (fun l => (List.range m).map (fun k => if tyM m c q l = true then ((fun i => (if i = l + 1 then a l q else 0) - (if i = k + 1 then a k q else 0)), (0 : Rat)) else ((fun _ => 0), (0 : Rat))))) ++
  (allL m).map (fun T => ((fun i => if i = 0 then 0 else bq (T.getD (i - 1) false) (h (i - 1))), tyS m g s c (fun l => T.getD l false)))))
theorem cons_iff {m g : Nat} {a : Nat → Nat → Rat} {h s : Nat → Rat} {c : List Bool} {x : Nat → Rat} : lsat (m + 1) (cons m g a h s c) x ↔ (x 0 ≤ inc m h (fun l => x (l + 1)) (fun _ => true) ∧ (∀ l, l < m → 0 ≤ x (l + 1)) ∧ (∀ q l k, q < g → l < m → k < m → tyM m c q l = true → a l q * x (l + 1) ≤ a k q * x (k + 1)) ∧ ∀ T ∈ allL m, inc m h (fun l => x (l + 1)) (fun l => T.getD l false) ≤ tyS m g s c (fun l => T.getD l false)) := by
  have e1 : qs (m + 1) (fun i => (if i = 0 then 1 else -(h (i - 1))) * x i) = x 0 - inc m h (fun l => x (l + 1)) (fun _ => true) := by
    rw [qs_shift]
    have : qs m (fun i => (if i + 1 = 0 then 1 else -(h (i + 1 - 1))) * x (i + 1)) = (-1) * inc m h (fun l => x (l + 1)) (fun _ => true) := by
      unfold inc
      rw [← qs_mul]
      refine qs_congr (fun i _ => ?_)
      simp [bq]
      grind
    rw [this]
    simp
    grind
  have e2 : ∀ l, l < m → qs (m + 1) (fun i => (if i = l + 1 then (-1 : Rat) else 0) * x i) = -(x (l + 1)) := by
    intro l hl
    rw [qs_one (by omega)]
    grind
  have e3 : ∀ q l k, l < m → k < m → qs (m + 1) (fun i => ((if i = l + 1 then a l q else 0) - (if i = k + 1 then a k q else 0)) * x i) = a l q * x (l + 1) - a k q * x (k + 1) := by
    intro q l k hl hk
    rw [qs_congr (g := fun i => (if i = l + 1 then a l q else 0) * x i + (-1) * ((if i = k + 1 then a k q else 0) * x i)) (fun i _ => by grind), qs_add, qs_mul, qs_one (by omega), qs_one (by omega)]
    grind
  have e4 : ∀ T : List Bool, qs (m + 1) (fun i => (if i = 0 then 0 else bq (T.getD (i - 1) false) (h (i - 1))) * x i) = inc m h (fun l => x (l + 1)) (fun l => T.getD l false) := by
    intro T
    rw [qs_shift]
    unfold inc
    rw [qs_congr (f := fun i => (if i + 1 = 0 then 0 else bq (T.getD (i + 1 - 1) false) (h (i + 1 - 1))) * x (i + 1)) (g := fun l => bq (T.getD l false) (h l * x (l + 1))) (fun i _ => by
      simp only [Nat.add_one_ne_zero, if_false, Nat.add_sub_cancel]
      cases T.getD i false <;> simp [bq] <;> grind)]
    simp
    grind
  constructor
  · intro hs
    refine ⟨?_, fun l hl => ?_, fun q l k hq hl hk ht => ?_, fun T hT => ?_⟩
    · have := hs _ (List.mem_append_left _ List.mem_cons_self)
      simp only at this
      rw [e1] at this
      grind
    · have := hs _ (List.mem_append_right _ (List.mem_append_left _ (List.mem_map.mpr ⟨l, List.mem_range.mpr hl, rfl⟩)))
      simp only at this
      rw [e2 l hl] at this
      grind
    · have := hs _ (List.mem_append_right _ (List.mem_append_right _ (List.mem_append_left _ (List.mem_flatMap.mpr ⟨q, List.mem_range.mpr hq, List.mem_flatMap.mpr ⟨l, List.mem_range.mpr hl, List.mem_map.mpr ⟨k, List.mem_range.mpr hk, rfl⟩⟩⟩))))
      rw [if_pos ht] at this
      simp only at this
      rw [e3 q l k hl hk] at this
      grind
    · have := hs _ (List.mem_append_right _ (List.mem_append_right _ (List.mem_append_right _ (List.mem_map.mpr ⟨T, hT, rfl⟩))))
      simp only at this
      rw [e4 T] at this
      exact this
  · rintro ⟨h1, h2, h3, h4⟩ p hp
    rcases List.mem_append.mp hp with hp | hp
    · rw [List.mem_singleton.mp hp]
      simp only
      rw [e1]
      grind
    rcases List.mem_append.mp hp with hp | hp
    · obtain ⟨l, hl, rfl⟩ := List.mem_map.mp hp
      have hl := List.mem_range.mp hl
      simp only
      rw [e2 l hl]
      have := h2 l hl
      grind
    rcases List.mem_append.mp hp with hp | hp
    · obtain ⟨q, hq, hp⟩ := List.mem_flatMap.mp hp
      obtain ⟨l, hl, hp⟩ := List.mem_flatMap.mp hp
      obtain ⟨k, hk, rfl⟩ := List.mem_map.mp hp
      have hq := List.mem_range.mp hq
      have hl := List.mem_range.mp hl
      have hk := List.mem_range.mp hk
      split
      · rename_i ht
        simp only
        rw [e3 q l k hl hk]
        have := h3 q l k hq hl hk ht
        grind
      · simp only
        rw [qs_congr (g := fun _ => 0) (fun i _ => by grind), qs_zero]
        exact Rat.le_refl
    · obtain ⟨T, hT, rfl⟩ := List.mem_map.mp hp
      simp only
      rw [e4 T]
      exact h4 T hT
theorem best_of (n : Nat) (Q : List Bool → (Nat → Rat) → Prop) : ∀ Ls : List (List Bool), Ls ≠ [] → (∀ c ∈ Ls, ∃ x, Q c x ∧ ∀ y, Q c y → y 0 ≤ x 0) → ∃ c ∈ Ls, ∃ x, Q c x ∧ ∀ d ∈ Ls, ∀ y, Q d y → y 0 ≤ x 0 := by
  intro Ls
  induction Ls with
  | nil => intro h; exact absurd rfl h
  | cons b Ls ih =>
    intro _ hm
    obtain ⟨x, hx, mx⟩ := hm b List.mem_cons_self
    by_cases e : Ls = []
    · subst e
      exact ⟨b, List.mem_cons_self, x, hx, fun d hd y hy => by rw [List.mem_singleton.mp hd] at hy; exact mx y hy⟩
    · obtain ⟨c, hc, z, hz, mz⟩ := ih e (fun c hc => hm c (List.mem_cons_of_mem _ hc))
      by_cases k : x 0 ≤ z 0
      · exact ⟨c, List.mem_cons_of_mem _ hc, z, hz, fun d hd y hy => by
          rcases List.mem_cons.mp hd with rfl | hd
          · have := mx y hy; grind
          · exact mz d hd y hy⟩
      · exact ⟨b, List.mem_cons_self, x, hx, fun d hd y hy => by
          rcases List.mem_cons.mp hd with rfl | hd
          · exact mx y hy
          · have := mz d hd y hy; grind⟩
theorem tyS_le {m g : Nat} {s : Nat → Rat} (hs : ∀ q, q < g → 0 < s q) {c : List Bool} {T : Nat → Bool} : tyS m g s c T ≤ qs g s := qs_le (fun q hq => bq_le (Rat.le_of_lt (hs q hq)))
theorem tyS_0 {m g : Nat} {s : Nat → Rat} (hs : ∀ q, q < g → 0 < s q) {c : List Bool} {T : Nat → Bool} : 0 ≤ tyS m g s c T := qs_nonneg (fun q hq => bq_nonneg (Rat.le_of_lt (hs q hq)))
theorem allL_ne (n : Nat) : allL n ≠ [] := fun h => by
  have := mem_allL (fun _ => false) n
  rw [h] at this
  cases this
/-- what okV says, as a solution of its type -/
theorem okV_sat {m g : Nat} {a : Nat → Nat → Rat} {h s w : Nat → Rat} (hV : okV m g a h s w) : ∃ c ∈ allL (g * m), lsat (m + 1) (cons m g a h s c) (fun i => if i = 0 then inc m h w (fun _ => true) else w (i - 1)) := by
  refine ⟨(List.range (g * m)).map (fun i => mkr m a w (i / m) (i % m)), mem_allL _ _, ?_⟩
  have hM : ∀ q l, q < g → l < m → tyM m ((List.range (g * m)).map (fun i => mkr m a w (i / m) (i % m))) q l = mkr m a w q l := by
    intro q l hq hl
    unfold tyM
    have hlt : q * m + l < g * m := by
      have : (q + 1) * m ≤ g * m := Nat.mul_le_mul_right m hq
      rw [Nat.add_mul] at this
      omega
    rw [getD_allL (fun i => mkr m a w (i / m) (i % m)) hlt]
    rw [show (q * m + l) / m = q by rw [Nat.add_comm, Nat.add_mul_div_right _ _ (by omega), Nat.div_eq_of_lt hl]; omega, show (q * m + l) % m = l by rw [Nat.add_comm, Nat.add_mul_mod_self_right, Nat.mod_eq_of_lt hl]]
  rw [cons_iff]
  simp only [Nat.add_one_ne_zero, if_false, Nat.add_sub_cancel, if_true]
  refine ⟨Rat.le_refl, fun l hl => Rat.le_of_lt (hV.1 l hl), fun q l k hq hl hk ht => ?_, fun T _ => ?_⟩
  · rw [hM q l hq hl] at ht
    exact mkr_iff.mp ht k hk
  · have e : tyS m g s ((List.range (g * m)).map (fun i => mkr m a w (i / m) (i % m))) (fun l => T.getD l false) = gts m g a s w (fun l => T.getD l false) := by
      unfold tyS gts
      refine qs_congr (fun q hq => ?_)
      congr 1
      unfold hit
      refine decide_eq_decide.mpr ?_
      constructor
      · rintro ⟨l, hl, t, k⟩
        exact ⟨l, hl, t, by rw [← hM q l hq hl]; exact k⟩
      · rintro ⟨l, hl, t, k⟩
        exact ⟨l, hl, t, by rw [hM q l hq hl]; exact k⟩
    rw [e]
    exact hV.2 _
/-- a start: all lands make good 0 alike -/
theorem okV_start {m g : Nat} {a : Nat → Nat → Rat} {h s : Nat → Rat} (P : posA m g a h s) (hm : 0 < m) : ∃ w, okV m g a h s w := by
  have hH : 0 < qs m (fun l => h l * (1 / a l 0)) := qs_pos (fun l hl => Rat.le_of_lt (Rat.mul_pos (P.2.1 l hl) (by have := P.1 l 0 hl P.2.2.2; rw [Rat.div_def]; exact Rat.mul_pos (by decide) (Rat.inv_pos.mpr this)))) hm (Rat.mul_pos (P.2.1 0 hm) (by have := P.1 0 0 hm P.2.2.2; rw [Rat.div_def]; exact Rat.mul_pos (by decide) (Rat.inv_pos.mpr this)))
  have ps := P.2.2.1 0 P.2.2.2
  generalize hHe : qs m (fun l => h l * (1 / a l 0)) = Hs at hH
  have pd : 0 < s 0 / Hs := by rw [Rat.div_def]; exact Rat.mul_pos ps (Rat.inv_pos.mpr hH)
  have ed : (s 0 / Hs) * Hs = s 0 := by grind
  generalize s 0 / Hs = d at pd ed
  have wp : ∀ l, l < m → 0 < d * (1 / a l 0) := fun l hl => by
    have := P.1 l 0 hl P.2.2.2
    rw [Rat.div_def]
    exact Rat.mul_pos pd (Rat.mul_pos (by decide) (Rat.inv_pos.mpr this))
  refine ⟨fun l => d * (1 / a l 0), wp, fun T => ?_⟩
  by_cases c : ∃ l, l < m ∧ T l = true
  · obtain ⟨l, hl, tl⟩ := c
    have hh : hit m a (fun l => d * (1 / a l 0)) T 0 = true := by
      refine hit_iff.mpr ⟨l, hl, tl, mkr_iff.mpr (fun k hk => ?_)⟩
      have p1 := P.1 l 0 hl P.2.2.2
      have p2 := P.1 k 0 hk P.2.2.2
      have e1 : a l 0 * (d * (1 / a l 0)) = d := by grind
      have e2 : a k 0 * (d * (1 / a k 0)) = d := by grind
      rw [e1, e2]
      exact Rat.le_refl
    have k1 : s 0 ≤ gts m g a s (fun l => d * (1 / a l 0)) T := by
      unfold gts
      have : qs g (fun q => if q = 0 then s 0 else 0) ≤ qs g (fun q => bq (hit m a (fun l => d * (1 / a l 0)) T q) (s q)) := by
        refine qs_le (fun q hq => ?_)
        by_cases e : q = 0
        · subst e
          rw [hh]
          simp [bq]
        · rw [if_neg e]
          exact bq_nonneg (Rat.le_of_lt (P.2.2.1 q hq))
      have e9 : qs g (fun q => if q = 0 then s 0 else 0) = s 0 := by
        have := qs_one (n := g) (l := 0) (c := s 0) (x := fun _ => 1) P.2.2.2
        rw [← qs_congr (f := fun i => (if i = 0 then s 0 else 0) * 1) (fun i _ => by grind), this]
        grind
      rw [e9] at this
      exact this
    have k2 : inc m h (fun l => d * (1 / a l 0)) T ≤ s 0 := by
      rw [← ed, ← hHe, ← qs_mul]
      unfold inc
      refine qs_le (fun k hk => ?_)
      have := Rat.mul_pos (P.2.1 k hk) (wp k hk)
      cases T k <;> simp [bq] <;> grind
    grind
  · have e1 : inc m h (fun l => d * (1 / a l 0)) T = 0 := by
      unfold inc
      rw [← qs_zero (n := m)]
      refine qs_congr (fun l hl => ?_)
      cases hT : T l with
      | false => simp [bq]
      | true => exact absurd ⟨l, hl, hT⟩ c
    rw [e1]
    unfold gts
    exact qs_nonneg (fun q hq => bq_nonneg (Rat.le_of_lt (P.2.2.1 q hq)))
theorem rest_ex {m g : Nat} {a : Nat → Nat → Rat} {h s : Nat → Rat} (P : posA m g a h s) (hm : 0 < m) : ∃ w, (∀ l, l < m → 0 < w l) ∧ rest m g a h s w := by
  obtain ⟨c, hc, x, hx, mx⟩ := best_of m (fun c x => lsat (m + 1) (cons m g a h s c) x) (allL (g * m)) (allL_ne _) (fun c _ => by
    refine lp_max m (cons m g a h s c) ⟨fun _ => 0, ?_⟩ (qs g s) (fun x hx => ?_)
    · rw [cons_iff]
      have z : ∀ T : Nat → Bool, inc m h (fun _ => 0) T = 0 := fun T => by
        have e9 : inc m h (fun _ => 0) T = qs m (fun _ => 0) := by
          unfold inc
          refine qs_congr (fun l _ => ?_)
          cases T l <;> simp [bq]
        rw [e9, qs_zero]
      refine ⟨by rw [z]; exact Rat.le_refl, fun _ _ => Rat.le_refl, fun q l k _ _ _ _ => by grind, fun T _ => by rw [z]; exact tyS_0 P.2.2.1⟩
    · obtain ⟨h1, -, -, h4⟩ := cons_iff.mp hx
      have k1 := h4 _ (mem_allL (fun _ => true) m)
      rw [inc_congr (U := fun _ => true) (fun l hl => getD_allL (fun _ => true) hl)] at k1
      have k2 := tyS_le (m := m) (c := c) (T := fun l => ((List.range m).map (fun _ => true)).getD l false) P.2.2.1
      grind)
  have mV : ∀ w, okV m g a h s w → inc m h w (fun _ => true) ≤ x 0 := by
    intro w hw
    obtain ⟨d, hd, hs⟩ := okV_sat hw
    have := mx d hd _ hs
    simpa using this
  obtain ⟨w0, hw0⟩ := okV_start P hm
  have x0 : 0 < x 0 := by
    have k1 := mV w0 hw0
    have k2 : 0 < inc m h w0 (fun _ => true) := inc_pos P.2.1 hw0.1 hm rfl
    grind
  obtain ⟨h1, h2, h3, h4⟩ := cons_iff.mp hx
  generalize hw : (fun l => x (l + 1)) = w at h1 h4
  have ew : ∀ l, x (l + 1) = w l := fun l => by rw [← hw]
  have h4' : ∀ T : Nat → Bool, inc m h w T ≤ tyS m g s c T := by
    intro T
    have k := h4 _ (mem_allL T m)
    rw [inc_congr (U := T) (fun l hl => getD_allL T hl)] at k
    have e : tyS m g s c (fun l => ((List.range m).map T).getD l false) = tyS m g s c T := by
      unfold tyS
      refine qs_congr (fun q _ => ?_)
      congr 1
      refine decide_eq_decide.mpr ?_
      constructor
      · rintro ⟨l, hl, t, k⟩
        exact ⟨l, hl, by rw [← getD_allL T hl]; exact t, k⟩
      · rintro ⟨l, hl, t, k⟩
        exact ⟨l, hl, (getD_allL T hl).trans t, k⟩
    rw [e] at k
    exact k
  -- one wage is above 0, so all are
  have some1 : ∃ k, k < m ∧ 0 < w k := by
    by_cases c9 : ∃ k, k < m ∧ 0 < w k
    · exact c9
    · exfalso
      have : inc m h w (fun _ => true) ≤ 0 := by
        unfold inc
        rw [← qs_zero (n := m)]
        refine qs_le (fun l hl => ?_)
        have k1 := h2 l hl
        rw [ew] at k1
        have k2 : w l = 0 := by
          by_cases e : 0 < w l
          · exact absurd ⟨l, hl, e⟩ c9
          · grind
        simp [bq, k2]
      grind
  obtain ⟨k, hk, wk⟩ := some1
  have wpos : ∀ l, l < m → 0 < w l := by
    intro l hl
    by_cases e : 0 < w l
    · exact e
    · exfalso
      have k1 := h2 l hl
      rw [ew] at k1
      have wl : w l = 0 := by grind
      have k2 := h4' (fun j => decide (j = k))
      have k3 : 0 < inc m h w (fun j => decide (j = k)) := by
        unfold inc
        refine qs_pos (fun j hj => ?_) hk ?_
        · by_cases e9 : j = k
          · subst e9
            simp [bq]
            exact Rat.le_of_lt (Rat.mul_pos (P.2.1 j hj) wk)
          · simp [bq, e9]
        · simp [bq]
          exact Rat.mul_pos (P.2.1 k hk) wk
      have k4 : ∃ q, q < g ∧ tyM m c q k = true := by
        by_cases c9 : ∃ q, q < g ∧ tyM m c q k = true
        · exact c9
        · exfalso
          have : tyS m g s c (fun j => decide (j = k)) = 0 := by
            unfold tyS
            rw [← qs_zero (n := g)]
            refine qs_congr (fun q hq => ?_)
            rw [decide_eq_false]
            · simp [bq]
            · rintro ⟨j, hj, t, y⟩
              have t : j = k := of_decide_eq_true t
              subst t
              exact c9 ⟨q, hq, y⟩
          grind
      obtain ⟨q, hq, ty⟩ := k4
      have k5 := h3 q k l hq hk hl ty
      rw [ew, ew, wl] at k5
      have k6 := Rat.mul_pos (P.1 k q hk hq) wk
      grind
  have hV : okV m g a h s w := by
    refine ⟨wpos, fun T => ?_⟩
    have k1 := h4' T
    have k2 : tyS m g s c T ≤ gts m g a s w T := by
      unfold tyS gts
      refine qs_le (fun q hq => ?_)
      have hp := P.2.2.1 q hq
      by_cases e : ∃ l, l < m ∧ T l = true ∧ tyM m c q l = true
      · obtain ⟨l, hl, t, ty⟩ := e
        rw [decide_eq_true ⟨l, hl, t, ty⟩, hit_iff.mpr ⟨l, hl, t, mkr_iff.mpr (fun k hk => by
          have := h3 q l k hq hl hk ty
          rw [ew, ew] at this
          exact this)⟩]
        exact Rat.le_refl
      · rw [decide_eq_false e]
        have := bq_nonneg (b := hit m a w T q) (Rat.le_of_lt hp)
        simp [bq] at this ⊢
        grind
    grind
  refine ⟨w, wpos, okV_rest P hV ?_⟩
  have k1 := hV.2 (fun _ => true)
  rw [gts_all hm] at k1
  by_cases e : inc m h w (fun _ => true) = qs g s
  · exact e
  · exfalso
    obtain ⟨v, vV, vl⟩ := raise P hm hV (by grind)
    have := mV v vV
    grind
