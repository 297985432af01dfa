/-! SUMS of rationals -/
def qs : Nat → (Nat → Rat) → Rat
  | 0, _ => 0
  | n + 1, f => qs n f + f n
theorem qs_congr {n : Nat} {f g : Nat → Rat} (h : ∀ i, i < n → f i = g i) : qs n f = qs n g := by
  induction n with
  | zero => rfl
  | succ n ih =>
    show qs n f + f n = qs n g + g n
    rw [ih (fun i hi => h i (by omega)), h n (by omega)]
theorem qs_le {n : Nat} {f g : Nat → Rat} (h : ∀ i, i < n → f i ≤ g i) : qs n f ≤ qs n g := by
  induction n with
  | zero => exact Rat.le_refl
  | succ n ih =>
    show qs n f + f n ≤ qs n g + g n
    have h1 := ih (fun i hi => h i (by omega))
    have h2 := h n (by omega)
    grind
theorem qs_lt {n : Nat} {f g : Nat → Rat} (h : ∀ i, i < n → f i ≤ g i) {k : Nat} (hk : k < n) (hs : f k < g k) : qs n f < qs n g := by
  induction n with
  | zero => omega
  | succ n ih =>
    show qs n f + f n < qs n g + g n
    have h2 := h n (by omega)
    by_cases e : k = n
    · subst e
      have h1 : qs k f ≤ qs k g := qs_le (fun i hi => h i (by omega))
      grind
    · have h1 := ih (fun i hi => h i (by omega)) (by omega)
      grind
theorem qs_add {n : Nat} {f g : Nat → Rat} : qs n (fun i => f i + g i) = qs n f + qs n g := by
  induction n with
  | zero => show (0 : Rat) = 0 + 0; grind
  | succ n ih =>
    show qs n (fun i => f i + g i) + (f n + g n) = qs n f + f n + (qs n g + g n)
    rw [ih]
    grind
theorem qs_mul {n : Nat} {c : Rat} {f : Nat → Rat} : qs n (fun i => c * f i) = c * qs n f := by
  induction n with
  | zero => show (0 : Rat) = c * 0; grind
  | succ n ih =>
    show qs n (fun i => c * f i) + c * f n = c * (qs n f + f n)
    rw [ih]
    grind
theorem qs_zero {n : Nat} : qs n (fun _ => 0) = 0 := by
  induction n with
  | zero => rfl
  | succ n ih =>
    show qs n (fun _ => 0) + 0 = 0
    rw [ih]
    grind
theorem qs_nonneg {n : Nat} {f : Nat → Rat} (h : ∀ i, i < n → 0 ≤ f i) : 0 ≤ qs n f := by
  have h1 := qs_le h
  rw [qs_zero] at h1
  exact h1
theorem qs_pos {n : Nat} {f : Nat → Rat} (h : ∀ i, i < n → 0 ≤ f i) {k : Nat} (hk : k < n) (hs : 0 < f k) : 0 < qs n f := by
  have h1 := qs_lt (f := fun _ => 0) h hk hs
  rw [qs_zero] at h1
  exact h1
/-! THE MATTER: m lands with hands h, g goods with shares s, hours a l q -/
def bq (b : Bool) (x : Rat) : Rat := if b = true then x else 0
/-- land l makes good q at least cost -/
def mkr (m : Nat) (a : Nat → Nat → Rat) (w : Nat → Rat) (q l : Nat) : Bool := decide (∀ k, k < m → a l q * w l ≤ a k q * w k)
/-- some maker of q is in T -/
def hit (m : Nat) (a : Nat → Nat → Rat) (w : Nat → Rat) (T : Nat → Bool) (q : Nat) : Bool := decide (∃ l, l < m ∧ T l = true ∧ mkr m a w q l = true)
def inc (m : Nat) (h w : Nat → Rat) (T : Nat → Bool) : Rat := qs m (fun l => bq (T l) (h l * w l))
def gts (m g : Nat) (a : Nat → Nat → Rat) (s w : Nat → Rat) (T : Nat → Bool) : Rat := qs g (fun q => bq (hit m a w T q) (s q))
/-- T has no more income than its goods get -/
def okT (m g : Nat) (a : Nat → Nat → Rat) (h s w : Nat → Rat) (T : Nat → Bool) : Prop := inc m h w T * qs g s ≤ inc m h w (fun _ => true) * gts m g a s w T
def rest (m g : Nat) (a : Nat → Nat → Rat) (h s w : Nat → Rat) : Prop := ∀ T : Nat → Bool, okT m g a h s w T
theorem inc_split {m : Nat} {h w : Nat → Rat} (T : Nat → Bool) : inc m h w (fun _ => true) = inc m h w T + inc m h w (fun l => !T l) := by
  unfold inc
  rw [← qs_add]
  refine qs_congr (fun i hi => ?_)
  cases hT : T i <;> simp [bq, hT] <;> grind
theorem inc_pos {m : Nat} {h w : Nat → Rat} (hh : ∀ l, l < m → 0 < h l) (hw : ∀ l, l < m → 0 < w l) {T : Nat → Bool} {k : Nat} (hk : k < m) (hT : T k = true) : 0 < inc m h w T := by
  unfold inc
  refine qs_pos (fun i hi => ?_) hk ?_
  · have h1 := Rat.mul_pos (hh i hi) (hw i hi)
    cases hT : T i <;> simp [bq] <;> grind
  · rw [hT]
    simp [bq]
    exact Rat.mul_pos (hh k hk) (hw k hk)
theorem q_mul_mono {x y z t : Rat} (h1 : x ≤ y) (h2 : z ≤ t) (hz : 0 ≤ z) (hy : 0 ≤ y) : x * z ≤ y * t := by
  have a1 : 0 ≤ (y - x) * z := Rat.mul_nonneg (by grind) hz
  have a2 : 0 ≤ y * (t - z) := Rat.mul_nonneg hy (by grind)
  grind
theorem q_cancel {x y c : Rat} (hc : 0 < c) (h : c * x < c * y) : x < y := by
  by_cases q : x < y
  · exact q
  · have a1 : 0 ≤ c * (x - y) := Rat.mul_nonneg (by grind) (by grind)
    grind
theorem q_cancel_le {x y c : Rat} (hc : 0 < c) (h : c * x ≤ c * y) : x ≤ y := by
  by_cases q : y < x
  · have a1 : 0 < c * (x - y) := Rat.mul_pos hc (by grind)
    grind
  · grind
theorem mkr_iff {m : Nat} {a : Nat → Nat → Rat} {w : Nat → Rat} {q l : Nat} : mkr m a w q l = true ↔ ∀ k, k < m → a l q * w l ≤ a k q * w k := by unfold mkr; exact decide_eq_true_iff
theorem hit_iff {m : Nat} {a : Nat → Nat → Rat} {w : Nat → Rat} {T : Nat → Bool} {q : Nat} : hit m a w T q = true ↔ ∃ l, l < m ∧ T l = true ∧ mkr m a w q l = true := by unfold hit; exact decide_eq_true_iff
/-- X is an upper level set of v by w -/
def lvl (m : Nat) (v w : Nat → Rat) (X : Nat → Bool) : Prop := ∀ l k, l < m → k < m → X l = true → X k = false → v k * w l < v l * w k
theorem lvl_hit {m : Nat} {a : Nat → Nat → Rat} {v w : Nat → Rat} {X : Nat → Bool} {q : Nat} (hX : lvl m v w X) (ha : ∀ l, l < m → 0 < a l q) (hv : ∀ l, l < m → 0 < v l) (hw : ∀ l, l < m → 0 < w l) (h : hit m a v X q = true) : hit m a w (fun l => !X l) q = false := by
  cases h2 : hit m a w (fun l => !X l) q with
  | false => rfl
  | true =>
    exfalso
    obtain ⟨l, hl, xl, ml⟩ := hit_iff.mp h
    obtain ⟨k, hk, xk, mk⟩ := hit_iff.mp h2
    have xk : X k = false := by simpa using xk
    have e1 := mkr_iff.mp ml k hk
    have e2 := mkr_iff.mp mk l hl
    have e3 := hX l k hl hk xl xk
    have p1 := ha l hl
    have p2 := ha k hk
    have e4 := q_mul_mono e1 e2 (Rat.le_of_lt (Rat.mul_pos p2 (hw k hk))) (Rat.le_of_lt (Rat.mul_pos p2 (hv k hk)))
    have p3 : 0 < (a l q * a k q) * (v l * w k - v k * w l) := Rat.mul_pos (Rat.mul_pos p1 p2) (by grind)
    grind
theorem bq_nonneg {b : Bool} {x : Rat} (h : 0 ≤ x) : 0 ≤ bq b x := by cases b <;> simp [bq] <;> grind
theorem lvl_gts {m g : Nat} {a : Nat → Nat → Rat} {s v w : Nat → Rat} {X : Nat → Bool} (hX : lvl m v w X) (ha : ∀ l q, l < m → q < g → 0 < a l q) (hs : ∀ q, q < g → 0 < s q) (hv : ∀ l, l < m → 0 < v l) (hw : ∀ l, l < m → 0 < w l) : gts m g a s v X + gts m g a s w (fun l => !X l) ≤ qs g s := by
  unfold gts
  rw [← qs_add]
  refine qs_le (fun q hq => ?_)
  have hp := hs q hq
  cases h1 : hit m a v X q with
  | false => cases hit m a w (fun l => !X l) q <;> simp [bq] <;> grind
  | true =>
    rw [lvl_hit hX (fun l hl => ha l q hl hq) hv hw h1]
    simp [bq]
    grind
theorem lvl_inc {m : Nat} {h v w : Nat → Rat} {X : Nat → Bool} (hX : lvl m v w X) (hh : ∀ l, l < m → 0 < h l) {l0 k0 : Nat} (hl0 : l0 < m) (hk0 : k0 < m) (xl : X l0 = true) (xk : X k0 = false) : inc m h w X * inc m h v (fun l => !X l) < inc m h v X * inc m h w (fun l => !X l) := by
  have key : ∀ l, l < m → X l = true → w l * inc m h v (fun l => !X l) < v l * inc m h w (fun l => !X l) := by
    intro l hl xl
    unfold inc
    rw [← qs_mul, ← qs_mul]
    refine qs_lt (fun k hk => ?_) hk0 ?_
    · cases hx : X k with
      | true => simp [bq, hx]
      | false =>
        have e := hX l k hl hk xl hx
        have p := hh k hk
        have p2 : 0 < h k * (v l * w k - v k * w l) := Rat.mul_pos p (by grind)
        simp [bq, hx]
        grind
    · have e := hX l k0 hl hk0 xl xk
      have p2 : 0 < h k0 * (v l * w k0 - v k0 * w l) := Rat.mul_pos (hh k0 hk0) (by grind)
      simp [bq, xk]
      grind
  generalize hB : inc m h w (fun l => !X l) = B at key ⊢
  generalize hB' : inc m h v (fun l => !X l) = B' at key ⊢
  unfold inc
  rw [show qs m (fun l => bq (X l) (h l * w l)) * B' = B' * qs m (fun l => bq (X l) (h l * w l)) by grind, show qs m (fun l => bq (X l) (h l * v l)) * B = B * qs m (fun l => bq (X l) (h l * v l)) by grind, ← qs_mul, ← qs_mul]
  refine qs_lt (fun l hl => ?_) hl0 ?_
  · cases hx : X l with
    | false => simp [bq]
    | true =>
      have p2 : 0 < h l * (v l * B - w l * B') := Rat.mul_pos (hh l hl) (by have := key l hl hx; grind)
      simp [bq]
      grind
  · have p2 : 0 < h l0 * (v l0 * B - w l0 * B') := Rat.mul_pos (hh l0 hl0) (by have := key l0 hl0 xl; grind)
    rw [xl]
    simp [bq]
    grind
/-- what all below stands on: all is above 0 -/
def posA (m g : Nat) (a : Nat → Nat → Rat) (h s : Nat → Rat) : Prop := (∀ l q, l < m → q < g → 0 < a l q) ∧ (∀ l, l < m → 0 < h l) ∧ (∀ q, q < g → 0 < s q) ∧ 0 < g
theorem posA.s {m g : Nat} {a : Nat → Nat → Rat} {h s : Nat → Rat} (P : posA m g a h s) : 0 < qs g s := qs_pos (fun i hi => Rat.le_of_lt (P.2.2.1 i hi)) P.2.2.2 (P.2.2.1 0 P.2.2.2)
/-- an upper level set that v can bear: its complement w cannot -/
theorem lvl_not {m g : Nat} {a : Nat → Nat → Rat} {h s v w : Nat → Rat} (P : posA m g a h s) {X : Nat → Bool} (hX : lvl m v w X) (hv : ∀ l, l < m → 0 < v l) (hw : ∀ l, l < m → 0 < w l) {l0 k0 : Nat} (hl0 : l0 < m) (hk0 : k0 < m) (xl : X l0 = true) (xk : X k0 = false) (ok : okT m g a h s v X) : ¬ okT m g a h s w (fun l => !X l) := by
  intro ok2
  unfold okT at ok ok2
  have e1 := lvl_gts hX P.1 P.2.2.1 hv hw
  have e2 := lvl_inc hX P.2.1 hl0 hk0 xl xk
  have s1 := inc_split (m := m) (h := h) (w := v) X
  have s2 := inc_split (m := m) (h := h) (w := w) X
  have y1 : 0 < inc m h v (fun _ => true) := inc_pos P.2.1 hv hl0 rfl
  have y2 : 0 < inc m h w (fun _ => true) := inc_pos P.2.1 hw hl0 rfl
  have hs := P.s
  generalize inc m h v (fun _ => true) = Yv at *
  generalize inc m h w (fun _ => true) = Yw at *
  generalize inc m h v X = vX at *
  generalize inc m h w X = wX at *
  generalize inc m h v (fun l => !X l) = vZ at *
  generalize inc m h w (fun l => !X l) = wZ at *
  generalize gts m g a s v X = gv at *
  generalize gts m g a s w (fun l => !X l) = gw at *
  generalize qs g s = t at *
  have a1 : 0 ≤ Yw * (Yv * gv - vX * t) := Rat.mul_nonneg (Rat.le_of_lt y2) (by grind)
  have a2 : 0 ≤ Yv * (Yw * gw - wZ * t) := Rat.mul_nonneg (Rat.le_of_lt y1) (by grind)
  have a3 : 0 ≤ (Yv * Yw) * (t - (gv + gw)) := Rat.mul_nonneg (Rat.le_of_lt (Rat.mul_pos y1 y2)) (by grind)
  have a4 : 0 < t * (vX * wZ - wX * vZ) := Rat.mul_pos hs (by grind)
  subst s1
  subst s2
  grind
