/-! A GREATEST VALUE of one coordinate over finitely many linear conditions: by putting variables away one by one -/
def lsat (n : Nat) (L : List ((Nat → Rat) × Rat)) (x : Nat → Rat) : Prop := ∀ c ∈ L, qs n (fun i => c.1 i * x i) ≤ c.2
theorem between (A B : List Rat) (h : ∀ a ∈ A, ∀ b ∈ B, a ≤ b) : ∃ v : Rat, (∀ a ∈ A, a ≤ v) ∧ ∀ b ∈ B, v ≤ b := by
  induction A with
  | nil =>
    induction B with
    | nil => exact ⟨0, by simp, by simp⟩
    | cons b B ih =>
      obtain ⟨v, -, hv⟩ := ih (by simp)
      by_cases c : v ≤ b
      · exact ⟨v, by simp, fun y hy => by
          rcases List.mem_cons.mp hy with rfl | hy
          · exact c
          · exact hv y hy⟩
      · exact ⟨b, by simp, fun y hy => by
          rcases List.mem_cons.mp hy with rfl | hy
          · exact Rat.le_refl
          · have := hv y hy; grind⟩
  | cons a A ih =>
    obtain ⟨v, h1, h2⟩ := ih (fun x hx b hb => h x (List.mem_cons_of_mem _ hx) b hb)
    by_cases c : a ≤ v
    · exact ⟨v, fun y hy => by
        rcases List.mem_cons.mp hy with rfl | hy
        · exact c
        · exact h1 y hy, h2⟩
    · exact ⟨a, fun y hy => by
        rcases List.mem_cons.mp hy with rfl | hy
        · exact Rat.le_refl
        · have := h1 y hy; grind, fun b hb => h a List.mem_cons_self b hb⟩
def upds (x : Nat → Rat) (n : Nat) (v : Rat) : Nat → Rat := fun i => if i = n then v else x i
theorem qs_upds {n : Nat} {c x : Nat → Rat} {v : Rat} : qs (n + 1) (fun i => c i * upds x n v i) = qs n (fun i => c i * x i) + c n * v := by
  show qs n (fun i => c i * upds x n v i) + c n * upds x n v n = _
  rw [qs_congr (g := fun i => c i * x i) (fun i hi => by simp [upds, Nat.ne_of_lt hi])]
  simp [upds]
def pairC (n : Nat) (p q : (Nat → Rat) × Rat) : (Nat → Rat) × Rat := (fun i => p.1 i * (-q.1 n) + q.1 i * p.1 n, p.2 * (-q.1 n) + q.2 * p.1 n)
def elim (n : Nat) (L : List ((Nat → Rat) × Rat)) : List ((Nat → Rat) × Rat) :=
  L.filter (fun c => decide (c.1 n = 0)) ++ (L.filter (fun c => decide (0 < c.1 n))).flatMap (fun p => (L.filter (fun c => decide (c.1 n < 0))).map (fun q => pairC n p q))
theorem elim_of {n : Nat} {L : List ((Nat → Rat) × Rat)} {x : Nat → Rat} (h : lsat (n + 1) L x) : lsat n (elim n L) x := by
  intro c hc
  rcases List.mem_append.mp hc with hc | hc
  · obtain ⟨h1, h2⟩ := List.mem_filter.mp hc
    have h2 : c.1 n = 0 := of_decide_eq_true h2
    have h3 : qs n (fun i => c.1 i * x i) + c.1 n * x n ≤ c.2 := h c h1
    rw [h2] at h3
    grind
  · obtain ⟨p, hp, hc⟩ := List.mem_flatMap.mp hc
    obtain ⟨q, hq, rfl⟩ := List.mem_map.mp hc
    obtain ⟨p1, p2⟩ := List.mem_filter.mp hp
    obtain ⟨q1, q2⟩ := List.mem_filter.mp hq
    have p2 : 0 < p.1 n := of_decide_eq_true p2
    have q2 : q.1 n < 0 := of_decide_eq_true q2
    have e1 : qs n (fun i => p.1 i * x i) + p.1 n * x n ≤ p.2 := h p p1
    have e2 : qs n (fun i => q.1 i * x i) + q.1 n * x n ≤ q.2 := h q q1
    show qs n (fun i => (p.1 i * (-q.1 n) + q.1 i * p.1 n) * x i) ≤ p.2 * (-q.1 n) + q.2 * p.1 n
    rw [qs_congr (g := fun i => (-q.1 n) * (p.1 i * x i) + p.1 n * (q.1 i * x i)) (fun i _ => by grind), qs_add, qs_mul, qs_mul]
    have a1 : 0 ≤ (-q.1 n) * (p.2 - (qs n (fun i => p.1 i * x i) + p.1 n * x n)) := Rat.mul_nonneg (by grind) (by grind)
    have a2 : 0 ≤ p.1 n * (q.2 - (qs n (fun i => q.1 i * x i) + q.1 n * x n)) := Rat.mul_nonneg (by grind) (by grind)
    grind
theorem q_div_le {x d c : Rat} (hc : 0 < c) : x ≤ d / c ↔ c * x ≤ d := by
  have e : c * (d / c) = d := by grind
  constructor
  · intro h
    have a1 : 0 ≤ c * (d / c - x) := Rat.mul_nonneg (Rat.le_of_lt hc) (by grind)
    grind
  · intro h
    exact q_cancel_le hc (by grind)
theorem elim_to {n : Nat} {L : List ((Nat → Rat) × Rat)} {x : Nat → Rat} (h : lsat n (elim n L) x) : ∃ v : Rat, lsat (n + 1) L (upds x n v) := by
  obtain ⟨v, h1, h2⟩ := between ((L.filter (fun c => decide (c.1 n < 0))).map (fun q => (qs n (fun i => q.1 i * x i) - q.2) / (-q.1 n))) ((L.filter (fun c => decide (0 < c.1 n))).map (fun p => (p.2 - qs n (fun i => p.1 i * x i)) / p.1 n)) (by
    intro a ha b hb
    obtain ⟨q, hq, rfl⟩ := List.mem_map.mp ha
    obtain ⟨p, hp, rfl⟩ := List.mem_map.mp hb
    have p2 : 0 < p.1 n := of_decide_eq_true (List.mem_filter.mp hp).2
    have q2 : q.1 n < 0 := of_decide_eq_true (List.mem_filter.mp hq).2
    have e : qs n (fun i => (p.1 i * (-q.1 n) + q.1 i * p.1 n) * x i) ≤ p.2 * (-q.1 n) + q.2 * p.1 n := h (pairC n p q) (List.mem_append_right _ (List.mem_flatMap.mpr ⟨p, hp, List.mem_map.mpr ⟨q, hq, rfl⟩⟩))
    rw [qs_congr (g := fun i => (-q.1 n) * (p.1 i * x i) + p.1 n * (q.1 i * x i)) (fun i _ => by grind), qs_add, qs_mul, qs_mul] at e
    rw [q_div_le p2]
    refine q_cancel_le (c := -q.1 n) (by grind) ?_
    have e5 : (-q.1 n) * ((qs n (fun i => q.1 i * x i) - q.2) / (-q.1 n)) = qs n (fun i => q.1 i * x i) - q.2 := by grind
    clear ha hb hq hp h
    generalize (qs n (fun i => q.1 i * x i) - q.2) / (-q.1 n) = t at e5 ⊢
    generalize qs n (fun i => q.1 i * x i) = Qq at e e5
    generalize qs n (fun i => p.1 i * x i) = Pp at e ⊢
    generalize q.1 n = qn at e e5 q2 ⊢
    generalize p.1 n = pn at e p2 ⊢
    have a1 : pn * ((-qn) * t) = pn * (Qq - q.2) := by rw [e5]
    grind)
  refine ⟨v, fun c hc => ?_⟩
  rw [qs_upds]
  by_cases c0 : c.1 n = 0
  · have e := h c (List.mem_append_left _ (List.mem_filter.mpr ⟨hc, decide_eq_true c0⟩))
    rw [c0]
    grind
  · by_cases c1 : 0 < c.1 n
    · have e := h2 _ (List.mem_map.mpr ⟨c, List.mem_filter.mpr ⟨hc, decide_eq_true c1⟩, rfl⟩)
      rw [q_div_le c1] at e
      grind
    · have c2 : c.1 n < 0 := by grind
      have e := h1 _ (List.mem_map.mpr ⟨c, List.mem_filter.mpr ⟨hc, decide_eq_true c2⟩, rfl⟩)
      have e5 : (-c.1 n) * ((qs n (fun i => c.1 i * x i) - c.2) / (-c.1 n)) = qs n (fun i => c.1 i * x i) - c.2 := by grind
      have a1 : 0 ≤ (-c.1 n) * (v - (qs n (fun i => c.1 i * x i) - c.2) / (-c.1 n)) := Rat.mul_nonneg (by grind) (by grind)
      grind
theorem one_var {L : List ((Nat → Rat) × Rat)} {x0 : Nat → Rat} (h0 : lsat 1 L x0) {B : Rat} (hB : ∀ x, lsat 1 L x → x 0 ≤ B) : ∃ x, lsat 1 L x ∧ ∀ y, lsat 1 L y → y 0 ≤ x 0 := by
  have e : ∀ (c : (Nat → Rat) × Rat) (x : Nat → Rat), qs 1 (fun i => c.1 i * x i) = c.1 0 * x 0 := by
    intro c x
    show (0 : Rat) + c.1 0 * x 0 = _
    grind
  -- the least upper mark among those that bind
  have mn : ∀ L : List ((Nat → Rat) × Rat), (∀ c ∈ L, ¬ 0 < c.1 0) ∨ ∃ c ∈ L, 0 < c.1 0 ∧ ∀ d ∈ L, 0 < d.1 0 → c.2 / c.1 0 ≤ d.2 / d.1 0 := by
    intro L
    induction L with
    | nil => exact Or.inl (by simp)
    | cons b L ih =>
      by_cases cb : 0 < b.1 0
      · right
        rcases ih with ih | ⟨c, hc, c1, c2⟩
        · exact ⟨b, List.mem_cons_self, cb, fun d hd dp => by
            rcases List.mem_cons.mp hd with rfl | hd
            · exact Rat.le_refl
            · exact absurd dp (ih d hd)⟩
        · by_cases cc : b.2 / b.1 0 ≤ c.2 / c.1 0
          · exact ⟨b, List.mem_cons_self, cb, fun d hd dp => by
              rcases List.mem_cons.mp hd with rfl | hd
              · exact Rat.le_refl
              · have := c2 d hd dp; grind⟩
          · exact ⟨c, List.mem_cons_of_mem _ hc, c1, fun d hd dp => by
              rcases List.mem_cons.mp hd with rfl | hd
              · grind
              · exact c2 d hd dp⟩
      · rcases ih with ih | ⟨c, hc, c1, c2⟩
        · exact Or.inl (fun d hd => by
            rcases List.mem_cons.mp hd with rfl | hd
            · exact cb
            · exact ih d hd)
        · exact Or.inr ⟨c, List.mem_cons_of_mem _ hc, c1, fun d hd dp => by
            rcases List.mem_cons.mp hd with rfl | hd
            · exact absurd dp cb
            · exact c2 d hd dp⟩
  rcases mn L with hn | ⟨c, hc, c1, c2⟩
  · exfalso
    have big : lsat 1 L (fun _ => (if B < x0 0 then x0 0 else B) + 1) := by
      intro d hd
      rw [e]
      have k1 := h0 d hd
      rw [e] at k1
      have k2 := hn d hd
      have a1 : 0 ≤ (-d.1 0) * (((if B < x0 0 then x0 0 else B) + 1) - x0 0) := Rat.mul_nonneg (by grind) (by split <;> grind)
      grind
    have k9 : (if B < x0 0 then x0 0 else B) + 1 ≤ B := hB _ big
    split at k9 <;> grind
  · refine ⟨fun _ => c.2 / c.1 0, fun d hd => ?_, fun y hy => ?_⟩
    · rw [e]
      have k1 := h0 d hd
      rw [e] at k1
      by_cases dp : 0 < d.1 0
      · have := c2 d hd dp
        rw [q_div_le dp] at this
        exact this
      · have k3 := h0 c hc
        rw [e] at k3
        have k4 : x0 0 ≤ c.2 / c.1 0 := (q_div_le c1).mpr k3
        have a1 : 0 ≤ (-d.1 0) * (c.2 / c.1 0 - x0 0) := Rat.mul_nonneg (by grind) (by grind)
        grind
    · have k3 := hy c hc
      rw [e] at k3
      exact (q_div_le c1).mpr k3
theorem lp_max : ∀ (n : Nat) (L : List ((Nat → Rat) × Rat)), (∃ x, lsat (n + 1) L x) → ∀ B : Rat, (∀ x, lsat (n + 1) L x → x 0 ≤ B) → ∃ x, lsat (n + 1) L x ∧ ∀ y, lsat (n + 1) L y → y 0 ≤ x 0 := by
  intro n
  induction n with
  | zero =>
    intro L ⟨x, hx⟩ B hB
    exact one_var hx hB
  | succ n ih =>
    intro L ⟨x, hx⟩ B hB
    obtain ⟨z, hz, hm⟩ := ih (elim (n + 1) L) ⟨x, elim_of hx⟩ B (fun y hy => by
      obtain ⟨v, hv⟩ := elim_to hy
      have := hB _ hv
      simpa [upds] using this)
    obtain ⟨v, hv⟩ := elim_to hz
    refine ⟨upds z (n + 1) v, hv, fun y hy => ?_⟩
    have := hm y (elim_of hy)
    simpa [upds] using this
