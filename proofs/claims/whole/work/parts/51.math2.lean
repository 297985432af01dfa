/-! ONE REST: two rests are in one proportion -/
theorem lvl_up {m : Nat} {v w : Nat → Rat} (hw : ∀ l, l < m → 0 < w l) {l0 : Nat} (hl0 : l0 < m) : lvl m v w (fun l => decide (v l0 * w l ≤ v l * w l0)) := by
  intro l k hl hk xl xk
  have e1 : v l0 * w l ≤ v l * w l0 := of_decide_eq_true xl
  have e2 : v k * w l0 < v l0 * w k := by
    have := of_decide_eq_false xk
    grind
  have p0 := hw l0 hl0
  have pl := hw l hl
  have pk := hw k hk
  have a1 : 0 < w l * (v l0 * w k - v k * w l0) := Rat.mul_pos pl (by grind)
  have a2 : 0 ≤ w k * (v l * w l0 - v l0 * w l) := Rat.mul_nonneg (Rat.le_of_lt pk) (by grind)
  exact q_cancel p0 (by grind)
theorem rest_one {m g : Nat} {a : Nat → Nat → Rat} {h s v w : Nat → Rat} (P : posA m g a h s) (hv : ∀ l, l < m → 0 < v l) (hw : ∀ l, l < m → 0 < w l) (rv : rest m g a h s v) (rw' : rest m g a h s w) : ∀ l k, l < m → k < m → v l * w k = v k * w l := by
  have key : ∀ l k, l < m → k < m → ¬ v k * w l < v l * w k := by
    intro l k hl hk hlt
    refine lvl_not P (lvl_up (v := v) hw hl) hv hw hl hk (decide_eq_true (by grind)) (decide_eq_false (by grind)) (rv _) (rw' _)
  intro l k hl hk
  have k1 := key l k hl hk
  have k2 := key k l hk hl
  grind
/-! PROPORTION keeps everything -/
theorem mkr_prop {m : Nat} {a : Nat → Nat → Rat} {v w : Nat → Rat} {c : Rat} (hc : 0 < c) (hp : ∀ l, l < m → w l = c * v l) {q l : Nat} (hl : l < m) : mkr m a w q l = mkr m a v q l := by
  have e : mkr m a w q l = true ↔ mkr m a v q l = true := by
    rw [mkr_iff, mkr_iff]
    constructor
    · intro h k hk
      have := h k hk
      rw [hp l hl, hp k hk] at this
      exact q_cancel_le hc (by grind)
    · intro h k hk
      have := h k hk
      rw [hp l hl, hp k hk]
      have a1 : 0 ≤ c * (a k q * v k - a l q * v l) := Rat.mul_nonneg (Rat.le_of_lt hc) (by grind)
      grind
  cases h1 : mkr m a w q l <;> cases h2 : mkr m a v q l <;> simp_all
theorem hit_prop {m : Nat} {a : Nat → Nat → Rat} {v w : Nat → Rat} {c : Rat} (hc : 0 < c) (hp : ∀ l, l < m → w l = c * v l) {T : Nat → Bool} {q : Nat} : hit m a w T q = hit m a v T q := by
  have e : hit m a w T q = true ↔ hit m a v T q = true := by
    rw [hit_iff, hit_iff]
    constructor
    · rintro ⟨l, hl, t, k⟩
      exact ⟨l, hl, t, by rw [← mkr_prop hc hp hl]; exact k⟩
    · rintro ⟨l, hl, t, k⟩
      exact ⟨l, hl, t, by rw [mkr_prop hc hp hl]; exact k⟩
  cases h1 : hit m a w T q <;> cases h2 : hit m a v T q <;> simp_all
theorem inc_prop {m : Nat} {h v w : Nat → Rat} {c : Rat} (hp : ∀ l, l < m → w l = c * v l) {T : Nat → Bool} : inc m h w T = c * inc m h v T := by
  unfold inc
  rw [← qs_mul]
  refine qs_congr (fun l hl => ?_)
  rw [hp l hl]
  cases T l <;> simp [bq] <;> grind
theorem okT_prop {m g : Nat} {a : Nat → Nat → Rat} {h s v w : Nat → Rat} {c : Rat} (hc : 0 < c) (hp : ∀ l, l < m → w l = c * v l) {T : Nat → Bool} (ok : okT m g a h s v T) : okT m g a h s w T := by
  unfold okT at ok ⊢
  have e : gts m g a s w T = gts m g a s v T := by
    unfold gts
    exact qs_congr (fun q _ => by rw [hit_prop hc hp])
  rw [inc_prop hp, inc_prop hp, e]
  have a1 : 0 ≤ c * (inc m h v (fun _ => true) * gts m g a s v T - inc m h v T * qs g s) := Rat.mul_nonneg (Rat.le_of_lt hc) (by grind)
  grind
/-! THE SIDE -/
theorem inc_mod {m : Nat} {h w : Nat → Rat} (T Z : Nat → Bool) : inc m h w T + inc m h w Z = inc m h w (fun l => T l || Z l) + inc m h w (fun l => T l && Z l) := by
  unfold inc
  rw [← qs_add, ← qs_add]
  refine qs_congr (fun l _ => ?_)
  cases hT : T l <;> cases hZ : Z l <;> simp [bq, hT, hZ] <;> grind
theorem gts_sub {m g : Nat} {a : Nat → Nat → Rat} {s w : Nat → Rat} (hs : ∀ q, q < g → 0 < s q) (T Z : Nat → Bool) : gts m g a s w (fun l => T l || Z l) + gts m g a s w (fun l => T l && Z l) ≤ gts m g a s w T + gts m g a s w Z := by
  unfold gts
  rw [← qs_add, ← qs_add]
  refine qs_le (fun q hq => ?_)
  have hp := hs q hq
  have i1 : hit m a w (fun l => T l || Z l) q = true → hit m a w T q = true ∨ hit m a w Z q = true := by
    intro h
    obtain ⟨l, hl, t, k⟩ := hit_iff.mp h
    have t : T l = true ∨ Z l = true := by simpa using t
    rcases t with t | t
    · exact Or.inl (hit_iff.mpr ⟨l, hl, t, k⟩)
    · exact Or.inr (hit_iff.mpr ⟨l, hl, t, k⟩)
  have i2 : hit m a w (fun l => T l && Z l) q = true → hit m a w T q = true ∧ hit m a w Z q = true := by
    intro h
    obtain ⟨l, hl, t, k⟩ := hit_iff.mp h
    have t : T l = true ∧ Z l = true := by simpa using t
    exact ⟨hit_iff.mpr ⟨l, hl, t.1, k⟩, hit_iff.mpr ⟨l, hl, t.2, k⟩⟩
  cases h1 : hit m a w (fun l => T l || Z l) q <;> cases h2 : hit m a w (fun l => T l && Z l) q <;> cases h3 : hit m a w T q <;> cases h4 : hit m a w Z q <;> simp_all [bq] <;> grind
theorem side {m g : Nat} {a : Nat → Nat → Rat} {h s v w : Nat → Rat} (P : posA m g a h s) (hv : ∀ l, l < m → 0 < v l) (hw : ∀ l, l < m → 0 < w l) (rv : rest m g a h s v) {x y : Nat} (hx : x < m) (hy : y < m) {T : Nat → Bool} (hT : ¬ okT m g a h s w T) (tx : T x = true) (ty : T y = false) (tied : ∀ U : Nat → Bool, U x = U y → okT m g a h s w U) : v x * w y < v y * w x := by
  by_cases q : v x * w y < v y * w x
  · exact q
  exfalso
  by_cases e : v y * w x < v x * w y
  · -- y is below x: the lands below x cannot be borne
    have L := lvl_up (v := v) hw hx
    have xX : (fun l => decide (v x * w l ≤ v l * w x)) x = true := decide_eq_true (by grind)
    have yX : (fun l => decide (v x * w l ≤ v l * w x)) y = false := decide_eq_false (by grind)
    have hZ := lvl_not P L hv hw hx hy xX yX (rv _)
    generalize hZe : (fun l => !(fun l => decide (v x * w l ≤ v l * w x)) l) = Z at hZ
    have zx : Z x = false := by rw [← hZe]; simp [xX]
    have zy : Z y = true := by rw [← hZe]; simp [yX]
    have o1 := tied (fun l => T l || Z l) (by simp [tx, zy])
    have o2 := tied (fun l => T l && Z l) (by simp [ty, zx])
    have m1 := inc_mod (m := m) (h := h) (w := w) T Z
    have m2 := gts_sub (m := m) (g := g) (a := a) (w := w) P.2.2.1 T Z
    have y2 : 0 < inc m h w (fun _ => true) := inc_pos P.2.1 hw hx rfl
    unfold okT at hT hZ o1 o2
    generalize inc m h w (fun _ => true) = Y at *
    generalize inc m h w T = iT at *
    generalize inc m h w Z = iZ at *
    generalize inc m h w (fun l => T l || Z l) = iU at *
    generalize inc m h w (fun l => T l && Z l) = iV at *
    generalize gts m g a s w T = gT at *
    generalize gts m g a s w Z = gZ at *
    generalize gts m g a s w (fun l => T l || Z l) = gU at *
    generalize gts m g a s w (fun l => T l && Z l) = gV at *
    generalize qs g s = t at *
    have a1 : 0 ≤ Y * (gT + gZ - (gU + gV)) := Rat.mul_nonneg (Rat.le_of_lt y2) (by grind)
    have a2 : t * (iT + iZ) = t * (iU + iV) := by rw [m1]
    grind
  · -- x and y are alike: then all are
    have exy : v x * w y = v y * w x := by grind
    have all : ∀ l, l < m → v l * w x = v x * w l := by
      intro l hl
      by_cases c1 : v l * w x < v x * w l
      · exfalso
        -- l is below x
        have L := lvl_up (v := v) hw hx
        have xX : (fun l => decide (v x * w l ≤ v l * w x)) x = true := decide_eq_true (by grind)
        have lX : (fun l => decide (v x * w l ≤ v l * w x)) l = false := decide_eq_false (by grind)
        have yX : (fun l => decide (v x * w l ≤ v l * w x)) y = true := decide_eq_true (by grind)
        exact lvl_not P L hv hw hx hl xX lX (rv _) (tied _ (by simp only [xX, yX]))
      · by_cases c2 : v x * w l < v l * w x
        · exfalso
          have L := lvl_up (v := v) hw hl
          have lX : (fun k => decide (v l * w k ≤ v k * w l)) l = true := decide_eq_true (by grind)
          have xX : (fun k => decide (v l * w k ≤ v k * w l)) x = false := decide_eq_false (by grind)
          have yX : (fun k => decide (v l * w k ≤ v k * w l)) y = false := by
            refine decide_eq_false (fun c3 => ?_)
            -- v l * w y ≤ v y * w l
            have px := hw x hx
            have py := hw y hy
            have a1 : 0 ≤ w x * (v y * w l - v l * w y) := Rat.mul_nonneg (Rat.le_of_lt px) (by grind)
            have a2 : 0 < w y * (v l * w x - v x * w l) := Rat.mul_pos py (by grind)
            have a3 : w l * (v x * w y) = w l * (v y * w x) := by rw [exy]
            grind
          exact lvl_not P L hv hw hl hx lX xX (rv _) (tied _ (by simp only [xX, yX]))
        · grind
    have pv := hv x hx
    have pw := hw x hx
    refine hT (okT_prop (v := v) (c := w x / v x) ?_ (fun l hl => ?_) (rv T))
    · rw [Rat.div_def]
      exact Rat.mul_pos pw (Rat.inv_pos.mpr pv)
    · have e1 := all l hl
      grind
