/-! from naturals to rationals -/
def q1 (f : Nat → Nat) : Nat → Rat := fun i => ((f i : Nat) : Rat)
def q2 (f : Nat → Nat → Nat) : Nat → Nat → Rat := fun i j => ((f i j : Nat) : Rat)
theorem qc_le {a b : Nat} : ((a : Nat) : Rat) ≤ ((b : Nat) : Rat) ↔ a ≤ b := Rat.natCast_le_natCast
theorem qc_lt {a b : Nat} : ((a : Nat) : Rat) < ((b : Nat) : Rat) ↔ a < b := Rat.natCast_lt_natCast
theorem qc_mul {a b : Nat} : ((a * b : Nat) : Rat) = (a : Rat) * (b : Rat) := Rat.natCast_mul a b
theorem qc_add {a b : Nat} : ((a + b : Nat) : Rat) = (a : Rat) + (b : Rat) := Rat.natCast_add a b
theorem qc_pos {a : Nat} (h : 1 ≤ a) : (0 : Rat) < (a : Rat) := qc_lt (a := 0).mpr h
theorem qs_ns {n : Nat} {f : Nat → Nat} : qs n (fun i => ((f i : Nat) : Rat)) = ((ns n f : Nat) : Rat) := by
  induction n with
  | zero => rfl
  | succ n ih =>
    show qs n (fun i => ((f i : Nat) : Rat)) + (f n : Rat) = ((ns n f + f n : Nat) : Rat)
    rw [ih, qc_add]
theorem mkb_bit {m : Nat} (hm : 1 ≤ m ∧ m ≤ 3) {c : Nat → Nat} {l : Nat} : (mkb m c).testBit l = true ↔ l < m ∧ c l = lst (m - 1) c := by
  unfold mkb
  by_cases hl : l < 3
  · generalize lst (m - 1) c = p
    by_cases h0 : c 0 = p <;> by_cases h1 : 1 < m ∧ c 1 = p <;> by_cases h2 : 2 < m ∧ c 2 = p <;> simp only [h0, h1, h2, if_true, if_false] <;> rcases (show l = 0 ∨ l = 1 ∨ l = 2 by omega) with rfl | rfl | rfl <;> constructor <;> intro hh <;> first | decide | exact absurd hh (by decide) | exact ⟨by omega, h0⟩ | exact h1 | exact h2 | exact absurd hh.2 h0 | exact absurd hh h1 | exact absurd hh h2
  · constructor
    · intro h
      exfalso
      have : (if c 0 = lst (m - 1) c then 1 else 0) + (if 1 < m ∧ c 1 = lst (m - 1) c then 2 else 0) + (if 2 < m ∧ c 2 = lst (m - 1) c then 4 else 0) < 2 ^ l := by
        have h8 : 2 ^ 3 ≤ 2 ^ l := Nat.pow_le_pow_right (by decide) (by omega)
        split <;> split <;> split <;> omega
      rw [Nat.testBit_lt_two_pow this] at h
      cases h
    · intro h
      omega
theorem and_zero {b t : Nat} : b &&& t = 0 ↔ ∀ i, ¬ (b.testBit i = true ∧ t.testBit i = true) := by
  constructor
  · intro h i ⟨h1, h2⟩
    have : (b &&& t).testBit i = true := by rw [Nat.testBit_and, h1, h2]; rfl
    rw [h] at this
    simp at this
  · intro h
    apply Nat.eq_of_testBit_eq
    intro i
    rw [Nat.testBit_and, Nat.zero_testBit]
    have := h i
    cases h1 : b.testBit i <;> cases h2 : t.testBit i <;> simp_all
/-- every row of truths over m lands has its number -/
theorem num_of {m : Nat} (hm : m ≤ 3) (T : Nat → Bool) : ∃ t, t < 2 ^ m ∧ ∀ l, l < m → t.testBit l = T l := by
  rcases (show m = 0 ∨ m = 1 ∨ m = 2 ∨ m = 3 by omega) with rfl | rfl | rfl | rfl
  · exact ⟨0, by decide, fun l hl => by omega⟩
  · cases h0 : T 0
    · exact ⟨0, by decide, fun l hl => by rw [show l = 0 by omega, h0]; rfl⟩
    · exact ⟨1, by decide, fun l hl => by rw [show l = 0 by omega, h0]; rfl⟩
  · cases h0 : T 0 <;> cases h1 : T 1
    · exact ⟨0, by decide, fun l hl => by rcases (show l = 0 ∨ l = 1 by omega) with rfl | rfl <;> first | (rw [h0]; rfl) | (rw [h1]; rfl)⟩
    · exact ⟨2, by decide, fun l hl => by rcases (show l = 0 ∨ l = 1 by omega) with rfl | rfl <;> first | (rw [h0]; rfl) | (rw [h1]; rfl)⟩
    · exact ⟨1, by decide, fun l hl => by rcases (show l = 0 ∨ l = 1 by omega) with rfl | rfl <;> first | (rw [h0]; rfl) | (rw [h1]; rfl)⟩
    · exact ⟨3, by decide, fun l hl => by rcases (show l = 0 ∨ l = 1 by omega) with rfl | rfl <;> first | (rw [h0]; rfl) | (rw [h1]; rfl)⟩
  · cases h0 : T 0 <;> cases h1 : T 1 <;> cases h2 : T 2
    · exact ⟨0, by decide, fun l hl => by rcases (show l = 0 ∨ l = 1 ∨ l = 2 by omega) with rfl | rfl | rfl <;> first | (rw [h0]; rfl) | (rw [h1]; rfl) | (rw [h2]; rfl)⟩
    · exact ⟨4, by decide, fun l hl => by rcases (show l = 0 ∨ l = 1 ∨ l = 2 by omega) with rfl | rfl | rfl <;> first | (rw [h0]; rfl) | (rw [h1]; rfl) | (rw [h2]; rfl)⟩
    · exact ⟨2, by decide, fun l hl => by rcases (show l = 0 ∨ l = 1 ∨ l = 2 by omega) with rfl | rfl | rfl <;> first | (rw [h0]; rfl) | (rw [h1]; rfl) | (rw [h2]; rfl)⟩
    · exact ⟨6, by decide, fun l hl => by rcases (show l = 0 ∨ l = 1 ∨ l = 2 by omega) with rfl | rfl | rfl <;> first | (rw [h0]; rfl) | (rw [h1]; rfl) | (rw [h2]; rfl)⟩
    · exact ⟨1, by decide, fun l hl => by rcases (show l = 0 ∨ l = 1 ∨ l = 2 by omega) with rfl | rfl | rfl <;> first | (rw [h0]; rfl) | (rw [h1]; rfl) | (rw [h2]; rfl)⟩
    · exact ⟨5, by decide, fun l hl => by rcases (show l = 0 ∨ l = 1 ∨ l = 2 by omega) with rfl | rfl | rfl <;> first | (rw [h0]; rfl) | (rw [h1]; rfl) | (rw [h2]; rfl)⟩
    · exact ⟨3, by decide, fun l hl => by rcases (show l = 0 ∨ l = 1 ∨ l = 2 by omega) with rfl | rfl | rfl <;> first | (rw [h0]; rfl) | (rw [h1]; rfl) | (rw [h2]; rfl)⟩
    · exact ⟨7, by decide, fun l hl => by rcases (show l = 0 ∨ l = 1 ∨ l = 2 by omega) with rfl | rfl | rfl <;> first | (rw [h0]; rfl) | (rw [h1]; rfl) | (rw [h2]; rfl)⟩
section LK
variable {m g : Nat} {A : Nat → Nat → Nat} {H Sh W : Nat → Nat}
theorem inc_N {t : Nat} {T : Nat → Bool} (ht : ∀ l, l < m → t.testBit l = T l) : inc m (q1 H) (q1 W) T = ((incN m H W t : Nat) : Rat) := by
  unfold inc incN
  rw [← qs_ns]
  refine qs_congr (fun l hl => ?_)
  rw [ht l hl]
  cases T l <;> simp [bq, q1, qc_mul]
theorem mkr_N (hm : 1 ≤ m ∧ m ≤ 3) {q l : Nat} (hl : l < m) : mkr m (q2 A) (q1 W) q l = true ↔ (mkrs m A W q).testBit l = true := by
  rw [mkr_iff]
  unfold mkrs
  rw [mkb_bit hm]
  have e : ∀ k, q2 A k q * q1 W k = ((W k * A k q : Nat) : Rat) := fun k => by
    show (A k q : Rat) * (W k : Rat) = _
    rw [qc_mul]
    grind
  constructor
  · intro h
    refine ⟨hl, ?_⟩
    obtain ⟨i, hi, ei⟩ := lst_in (n := m - 1) (c := fun l => W l * A l q)
    have h1 := lst_le (n := m - 1) (c := fun l => W l * A l q) l (by omega)
    have h2 := h i (by omega)
    rw [e, e, qc_le] at h2
    omega
  · rintro ⟨-, h⟩ k hk
    rw [e, e, qc_le]
    have h1 := lst_le (n := m - 1) (c := fun l => W l * A l q) k (by omega)
    omega
theorem hit_N (hm : 1 ≤ m ∧ m ≤ 3) {t : Nat} {T : Nat → Bool} (ht : ∀ l, l < m → t.testBit l = T l) {q : Nat} : hit m (q2 A) (q1 W) T q = true ↔ ¬ (mkrs m A W q &&& t = 0) := by
  rw [hit_iff, and_zero]
  constructor
  · rintro ⟨l, hl, tl, ml⟩ h
    exact h l ⟨(mkr_N hm hl).mp ml, by rw [ht l hl]; exact tl⟩
  · intro h
    by_cases c : ∃ l, l < m ∧ T l = true ∧ mkr m (q2 A) (q1 W) q l = true
    · exact c
    · exfalso
      refine h (fun i ⟨h1, h2⟩ => c ⟨i, ?_, ?_, ?_⟩)
      · exact ((mkb_bit hm).mp h1).1
      · rw [← ht i ((mkb_bit hm).mp h1).1]; exact h2
      · exact (mkr_N hm ((mkb_bit hm).mp h1).1).mpr h1
theorem gts_N (hm : 1 ≤ m ∧ m ≤ 3) {t : Nat} {T : Nat → Bool} (ht : ∀ l, l < m → t.testBit l = T l) : gts m g (q2 A) (q1 Sh) (q1 W) T = ((gtsN g (mkrs m A W) Sh t : Nat) : Rat) := by
  unfold gts gtsN
  rw [← qs_ns]
  refine qs_congr (fun q hq => ?_)
  by_cases c : mkrs m A W q &&& t = 0
  · rw [if_pos c]
    cases h : hit m (q2 A) (q1 W) T q with
    | false => simp [bq]
    | true => exact absurd c ((hit_N hm ht).mp h)
  · rw [if_neg c, (hit_N hm ht).mpr c]
    simp [bq, q1]
theorem full_bit {m : Nat} (hm : m ≤ 3) {l : Nat} (hl : l < m) : (2 ^ m - 1).testBit l = true := by
  rw [Nat.testBit_two_pow_sub_one]
  exact decide_eq_true hl
theorem ok_N (hm : 1 ≤ m ∧ m ≤ 3) {t : Nat} {T : Nat → Bool} (ht : ∀ l, l < m → t.testBit l = T l) : okT m g (q2 A) (q1 H) (q1 Sh) (q1 W) T ↔ okN m g A H Sh W t := by
  unfold okT okN
  rw [inc_N ht, inc_N (t := 2 ^ m - 1) (T := fun _ => true) (fun l hl => full_bit hm.2 hl), gts_N hm ht, show qs g (q1 Sh) = ((ns g Sh : Nat) : Rat) from qs_ns, ← qc_mul, ← qc_mul, qc_le]
/-- wages at rest -/
def restN (m g : Nat) (A : Nat → Nat → Nat) (H Sh W : Nat → Nat) : Prop := (∀ l, l < m → 1 ≤ W l) ∧ ∀ t, t < 2 ^ m → okN m g A H Sh W t
theorem rest_N (hm : 1 ≤ m ∧ m ≤ 3) : (∀ t, t < 2 ^ m → okN m g A H Sh W t) ↔ rest m g (q2 A) (q1 H) (q1 Sh) (q1 W) := by
  constructor
  · intro h T
    obtain ⟨t, ht, e⟩ := num_of hm.2 T
    exact (ok_N hm e).mpr (h t ht)
  · intro h t _
    exact (ok_N hm (T := fun l => t.testBit l) (fun _ _ => rfl)).mp (h _)
theorem okN_0 : okN m g A H Sh W 0 := by
  have : incN m H W 0 = 0 := by
    unfold incN
    have : ∀ n, ns n (fun l => if (0 : Nat).testBit l = true then H l * W l else 0) = 0 := by
      intro n
      induction n with
      | zero => rfl
      | succ n ih =>
        show ns n _ + _ = 0
        rw [ih]
        simp
    exact this m
  unfold okN
  rw [this]
  omega
theorem idle_rest (hW : ∀ l, l < m → 1 ≤ W l) (h : idle m g A H Sh W 0) : restN m g A H Sh W := by
  rcases h with ⟨-, h⟩ | ⟨h, -⟩
  · exact ⟨hW, fun t ht => by
      by_cases e : t = 0
      · rw [e]; exact okN_0
      · exact h t (by omega) ht⟩
  · omega
theorem posA_N (D : dat m g A H Sh) : posA m g (q2 A) (q1 H) (q1 Sh) := ⟨fun l q hl hq => qc_pos (D.2.2.2.2 l q hl hq).1, fun l hl => qc_pos (D.2.2.1 l hl).1, fun q hq => qc_pos (D.2.2.2.1 q hq).1, by have := D.2.1; omega⟩
/-- two rests are in one proportion -/
theorem restN_one (D : dat m g A H Sh) {V : Nat → Nat} (h : restN m g A H Sh W) (h' : restN m g A H Sh V) {l k : Nat} (hl : l < m) (hk : k < m) : V l * W k = V k * W l := by
  have := rest_one (posA_N D) (v := q1 V) (w := q1 W) (fun l hl => qc_pos (h'.1 l hl)) (fun l hl => qc_pos (h.1 l hl)) ((rest_N D.1).mp h'.2) ((rest_N D.1).mp h.2) l k hl hk
  have e : ((V l * W k : Nat) : Rat) = ((V k * W l : Nat) : Rat) := by rw [qc_mul, qc_mul]; exact this
  exact Rat.natCast_inj.mp e
end LK
