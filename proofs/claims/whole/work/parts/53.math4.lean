/-! THERE IS A REST -/
/-- every set of lands can be paid: absolutely, all coin being the shares' sum -/
def okV (m g : Nat) (a : Nat → Nat → Rat) (h s w : Nat → Rat) : Prop := (∀ l, l < m → 0 < w l) ∧ ∀ T : Nat → Bool, inc m h w T ≤ gts m g a s w T
theorem inc_congr {m : Nat} {h w : Nat → Rat} {T U : Nat → Bool} (e : ∀ l, l < m → T l = U l) : inc m h w T = inc m h w U := by
  unfold inc
  exact qs_congr (fun l hl => by rw [e l hl])
theorem hit_congr {m : Nat} {a : Nat → Nat → Rat} {w : Nat → Rat} {T U : Nat → Bool} (e : ∀ l, l < m → T l = U l) {q : Nat} : hit m a w T q = hit m a w U q := by
  have k : hit m a w T q = true ↔ hit m a w U q = true := by
    rw [hit_iff, hit_iff]
    constructor
    · rintro ⟨l, hl, t, k⟩
      exact ⟨l, hl, by rw [← e l hl]; exact t, k⟩
    · rintro ⟨l, hl, t, k⟩
      exact ⟨l, hl, by rw [e l hl]; exact t, k⟩
  cases h1 : hit m a w T q <;> cases h2 : hit m a w U q <;> simp_all
theorem gts_congr {m g : Nat} {a : Nat → Nat → Rat} {s w : Nat → Rat} {T U : Nat → Bool} (e : ∀ l, l < m → T l = U l) : gts m g a s w T = gts m g a s w U := by
  unfold gts
  exact qs_congr (fun q _ => by rw [hit_congr e])
theorem bq_le {b : Bool} {x : Rat} (h : 0 ≤ x) : bq b x ≤ x := by cases b <;> simp [bq] <;> grind
theorem gts_le {m g : Nat} {a : Nat → Nat → Rat} {s w : Nat → Rat} (hs : ∀ q, q < g → 0 < s q) {T : Nat → Bool} : gts m g a s w T ≤ qs g s := qs_le (fun q hq => bq_le (Rat.le_of_lt (hs q hq)))
theorem okV_rest {m g : Nat} {a : Nat → Nat → Rat} {h s w : Nat → Rat} (P : posA m g a h s) (hV : okV m g a h s w) (he : inc m h w (fun _ => true) = qs g s) : rest m g a h s w := by
  intro T
  unfold okT
  rw [he]
  have a1 : 0 ≤ qs g s * (gts m g a s w T - inc m h w T) := Rat.mul_nonneg (Rat.le_of_lt P.s) (by have := hV.2 T; grind)
  grind
/-- some maker there is -/
theorem hit_all {m : Nat} {a : Nat → Nat → Rat} {w : Nat → Rat} (hm : 0 < m) (q : Nat) : ∃ l, l < m ∧ mkr m a w q l = true := by
  have key : ∀ n, n < m → ∃ l, l ≤ n ∧ ∀ k, k ≤ n → a l q * w l ≤ a k q * w k := by
    intro n
    induction n with
    | zero => intro _; exact ⟨0, Nat.le_refl _, fun k hk => by rw [show k = 0 by omega]; exact Rat.le_refl⟩
    | succ n ih =>
      intro hn
      obtain ⟨l, hl, h⟩ := ih (by omega)
      by_cases c : a l q * w l ≤ a (n + 1) q * w (n + 1)
      · exact ⟨l, by omega, fun k hk => by
          by_cases e : k = n + 1
          · rw [e]; exact c
          · exact h k (by omega)⟩
      · exact ⟨n + 1, Nat.le_refl _, fun k hk => by
          by_cases e : k = n + 1
          · rw [e]; exact Rat.le_refl
          · have := h k (by omega); grind⟩
  obtain ⟨l, hl, h⟩ := key (m - 1) (by omega)
  exact ⟨l, by omega, mkr_iff.mpr (fun k hk => h k (by omega))⟩
theorem gts_all {m g : Nat} {a : Nat → Nat → Rat} {s w : Nat → Rat} (hm : 0 < m) : gts m g a s w (fun _ => true) = qs g s := by
  unfold gts
  refine qs_congr (fun q _ => ?_)
  obtain ⟨l, hl, k⟩ := hit_all (a := a) (w := w) hm q
  rw [hit_iff.mpr ⟨l, hl, rfl, k⟩]
  simp [bq]
/-! a factor a little above 1 -/
theorem ex_lam (L : List (Rat × Rat)) (h : ∀ p ∈ L, 0 ≤ p.1 ∧ p.1 < p.2) : ∃ t : Rat, 1 < t ∧ ∀ p ∈ L, t * p.1 ≤ p.2 := by
  induction L with
  | nil => exact ⟨2, by decide, by simp⟩
  | cons b L ih =>
    obtain ⟨t, t1, ht⟩ := ih (fun p hp => h p (List.mem_cons_of_mem _ hp))
    obtain ⟨b1, b2⟩ := h b List.mem_cons_self
    by_cases c : t * b.1 ≤ b.2
    · exact ⟨t, t1, fun p hp => by
        rcases List.mem_cons.mp hp with rfl | hp
        · exact c
        · exact ht p hp⟩
    · have bp : 0 < b.1 := by
        by_cases z : b.1 = 0
        · rw [z] at c; grind
        · grind
      have e : b.1 * (b.2 / b.1) = b.2 := by grind
      refine ⟨b.2 / b.1, ?_, fun p hp => ?_⟩
      · exact q_cancel bp (by grind)
      · rcases List.mem_cons.mp hp with rfl | hp
        · grind
        · have k1 := ht p hp
          have k2 := (h p (List.mem_cons_of_mem _ hp)).1
          have k3 : b.2 / b.1 ≤ t := q_cancel_le bp (by grind)
          have a1 : 0 ≤ p.1 * (t - b.2 / b.1) := Rat.mul_nonneg k2 (by grind)
          grind
/-! all rows of n truths -/
def allL : Nat → List (List Bool)
  | 0 => [[]]
  | n + 1 => (allL n).flatMap (fun c => [c ++ [false], c ++ [true]])
theorem mem_allL (f : Nat → Bool) : ∀ n, (List.range n).map f ∈ allL n := by
  intro n
  induction n with
  | zero => exact List.mem_cons_self
  | succ n ih =>
    rw [List.range_succ, List.map_append]
    refine List.mem_flatMap.mpr ⟨_, ih, ?_⟩
    show (List.range n).map f ++ [f n] ∈ _
    cases f n <;> simp
theorem getD_allL (f : Nat → Bool) {n i : Nat} (hi : i < n) : ((List.range n).map f).getD i false = f i := by
  simp [hi]
/-- how many of the first m lands are in T -/
def cnt : Nat → (Nat → Bool) → Nat
  | 0, _ => 0
  | n + 1, T => cnt n T + (if T n = true then 1 else 0)
theorem cnt_le {T : Nat → Bool} : ∀ {n : Nat}, cnt n T ≤ n
  | 0 => Nat.le_refl _
  | n + 1 => by
    have := cnt_le (T := T) (n := n)
    show cnt n T + _ ≤ n + 1
    split <;> omega
theorem cnt_lt {T U : Nat → Bool} : ∀ {n : Nat}, (∀ l, l < n → T l = true → U l = true) → (∃ l, l < n ∧ T l = false ∧ U l = true) → cnt n T < cnt n U
  | 0, _, h => by obtain ⟨l, hl, -⟩ := h; omega
  | n + 1, h1, h2 => by
    have hle : ∀ {n : Nat}, (∀ l, l < n → T l = true → U l = true) → cnt n T ≤ cnt n U := by
      intro n
      induction n with
      | zero => intro _; exact Nat.le_refl _
      | succ n ih =>
        intro h
        have i1 := ih (fun l hl => h l (by omega))
        have i2 := h n (by omega)
        show cnt n T + _ ≤ cnt n U + _
        cases hT : T n <;> cases hU : U n <;> simp_all <;> omega
    show cnt n T + _ < cnt n U + _
    obtain ⟨l, hl, t, u⟩ := h2
    by_cases e : l = n
    · subst e
      have i1 := hle (n := l) (fun k hk => h1 k (by omega))
      simp [t, u]
      omega
    · have i1 := cnt_lt (n := n) (fun k hk => h1 k (by omega)) ⟨l, by omega, t, u⟩
      have i2 := h1 n (by omega)
      cases hT : T n <;> cases hU : U n <;> simp_all <;> omega
/-- the greatest set that is paid to the last coin -/
theorem tight_max {m g : Nat} {a : Nat → Nat → Rat} {h s w : Nat → Rat} : ∃ T : Nat → Bool, inc m h w T = gts m g a s w T ∧ ∀ U : Nat → Bool, inc m h w U = gts m g a s w U → cnt m U ≤ cnt m T := by
  have z : inc m h w (fun _ => false) = gts m g a s w (fun _ => false) := by
    have e1 : inc m h w (fun _ => false) = 0 := by
      unfold inc
      rw [← qs_zero (n := m)]
      exact qs_congr (fun l _ => by simp [bq])
    have e2 : gts m g a s w (fun _ => false) = 0 := by
      unfold gts
      rw [← qs_zero (n := g)]
      refine qs_congr (fun q _ => ?_)
      cases hh : hit m a w (fun _ => false) q with
      | false => simp [bq]
      | true => obtain ⟨l, _, t, _⟩ := hit_iff.mp hh; cases t
    rw [e1, e2]
  have key : ∀ n, (∃ T : Nat → Bool, inc m h w T = gts m g a s w T ∧ m ≤ cnt m T + n) → ∃ T : Nat → Bool, inc m h w T = gts m g a s w T ∧ ∀ U : Nat → Bool, inc m h w U = gts m g a s w U → cnt m U ≤ cnt m T := by
    intro n
    induction n with
    | zero =>
      intro ⟨T, t1, t2⟩
      exact ⟨T, t1, fun U _ => by have := cnt_le (T := U) (n := m); omega⟩
    | succ n ih =>
      intro ⟨T, t1, t2⟩
      by_cases c : ∃ U : Nat → Bool, inc m h w U = gts m g a s w U ∧ cnt m T < cnt m U
      · obtain ⟨U, u1, u2⟩ := c
        exact ih ⟨U, u1, by omega⟩
      · exact ⟨T, t1, fun U hU => by
          rcases Nat.lt_or_ge (cnt m T) (cnt m U) with q | q
          · exact absurd ⟨U, hU, q⟩ c
          · exact q⟩
  exact key m ⟨_, z, by omega⟩
