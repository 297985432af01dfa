/-! settleTwo: wages of two lands -/
/-- of two lands as if there were no other: each can be paid -/
def prest (g : Nat) (f s Sh : Nat → Nat) (h1 h2 w1 w2 : Nat) : Prop := 1 ≤ w1 ∧ 1 ≤ w2 ∧ h1 * w1 * ns g Sh ≤ (h1 * w1 + h2 * w2) * ns g (fun q => if f q * w1 ≤ s q * w2 then Sh q else 0) ∧ h2 * w2 * ns g Sh ≤ (h1 * w1 + h2 * w2) * ns g (fun q => if s q * w2 ≤ f q * w1 then Sh q else 0)
theorem ns_mono {n : Nat} {f g : Nat → Nat} (h : ∀ i, i < n → f i ≤ g i) : ns n f ≤ ns n g := by
  induction n with
  | zero => exact Nat.le_refl _
  | succ n ih =>
    show ns n f + f n ≤ ns n g + g n
    have h1 := ih (fun i hi => h i (by omega))
    have h2 := h n (by omega)
    omega
theorem ns_add {n : Nat} {f g : Nat → Nat} : ns n (fun i => f i + g i) = ns n f + ns n g := by
  induction n with
  | zero => rfl
  | succ n ih =>
    show ns n (fun i => f i + g i) + (f n + g n) = ns n f + f n + (ns n g + g n)
    rw [ih]
    omega
theorem ns_pre {k n : Nat} {f : Nat → Nat} (h : k ≤ n) : ns n (fun i => if i < k then f i else 0) = ns k f := by
  induction n with
  | zero => rw [show k = 0 by omega]
            rfl
  | succ n ih =>
    show ns n (fun i => if i < k then f i else 0) + (if n < k then f n else 0) = _
    by_cases c : k = n + 1
    · subst c
      rw [if_pos (by omega)]
      show _ = ns n f + f n
      rw [ns_congr (f := fun i => if i < n + 1 then f i else 0) (g := f) (fun i hi => by rw [if_pos (by omega)])]
    · rw [ih (by omega), if_neg (by omega)]
      rfl
/-- what stands in the chain before k, or from k on -/
theorem sum_lo {g k : Nat} {f s od Sh : Nat → Nat} (hs : srt g f s od) (hk : k ≤ g) {B : Nat → Bool} (h : ∀ i, i < k → B (od i) = true) : ns k (fun i => Sh (od i)) ≤ ns g (fun q => if B q = true then Sh q else 0) := by
  rw [← hs.2.2 (fun q => if B q = true then Sh q else 0), ← ns_pre hk]
  refine ns_mono (fun i hi => ?_)
  by_cases c : i < k
  · rw [if_pos c, if_pos (h i c)]
    exact Nat.le_refl _
  · rw [if_neg c]
    omega
theorem sum_hi {g k : Nat} {f s od Sh : Nat → Nat} (hs : srt g f s od) (hk : k ≤ g) {B : Nat → Bool} (h : ∀ i, k ≤ i → i < g → B (od i) = true) : ns g Sh ≤ ns k (fun i => Sh (od i)) + ns g (fun q => if B q = true then Sh q else 0) := by
  rw [← hs.2.2 (fun q => if B q = true then Sh q else 0), ← hs.2.2 Sh, ← ns_pre hk, ← ns_add]
  refine ns_mono (fun i hi => ?_)
  by_cases c : i < k
  · rw [if_pos c]
    omega
  · rw [if_neg c, if_pos (h i (by omega) hi)]
    omega
theorem srt_le {g : Nat} {f s od : Nat → Nat} (hs : srt g f s od) {i j : Nat} (hij : i ≤ j) (hj : j < g) : f (od i) * s (od j) ≤ f (od j) * s (od i) := by
  by_cases c : i = j
  · rw [c]
    exact Nat.le_refl _
  · exact ahd_le (hs.2.1 i j (by omega) hj)
section ST
variable {g : Nat} {f s od Sh : Nat → Nat} {h1 h2 : Nat}
/-- a good that both make -/
theorem set_tie (hs : srt g f s od) (hf : ∀ q, q < g → 1 ≤ f q) (hsp : ∀ q, q < g → 1 ≤ s q) {k : Nat} (hk : k < g) (c1 : ns k (fun i => Sh (od i)) * (h1 * s (od k) + h2 * f (od k)) ≤ h1 * s (od k) * ns g Sh) (c2 : h1 * s (od k) * ns g Sh ≤ (ns k (fun i => Sh (od i)) + Sh (od k)) * (h1 * s (od k) + h2 * f (od k))) : prest g f s Sh h1 h2 (s (od k)) (f (od k)) := by
  have ok := hs.1 k hk
  have a1 := sum_lo (k := k + 1) (Sh := Sh) (B := fun q => decide (f q * s (od k) ≤ s q * f (od k))) hs (by omega) (fun i hi => decide_eq_true (by have := srt_le hs (i := i) (j := k) (by omega) hk; rw [Nat.mul_comm (s (od i))]; exact this))
  have a2 := sum_hi (k := k) (Sh := Sh) (B := fun q => decide (s q * f (od k) ≤ f q * s (od k))) hs (by omega) (fun i hi hg => decide_eq_true (by have := srt_le hs (i := k) (j := i) hi hg; rw [Nat.mul_comm (s (od i))]; exact this))
  simp only [decide_eq_true_eq] at a1 a2
  have e1 : ns (k + 1) (fun i => Sh (od i)) = ns k (fun i => Sh (od i)) + Sh (od k) := rfl
  rw [e1] at a1
  refine ⟨hsp _ ok, hf _ ok, ?_, ?_⟩
  · generalize ns g (fun q => if f q * s (od k) ≤ s q * f (od k) then Sh q else 0) = X at a1 ⊢
    refine Nat.le_trans c2 ?_
    rw [Nat.mul_comm]
    exact Nat.mul_le_mul_left _ a1
  · generalize ns g (fun q => if s q * f (od k) ≤ f q * s (od k) then Sh q else 0) = X at a2 ⊢
    generalize ns k (fun i => Sh (od i)) = pd at *
    generalize ns g Sh = al at *
    have a3 := Nat.mul_le_mul_left (h1 * s (od k) + h2 * f (od k)) a2
    grind
/-- the cut lies between two goods -/
theorem set_cut (hs : srt g f s od) (hf : ∀ q, q < g → 1 ≤ f q) (hsp : ∀ q, q < g → 1 ≤ s q) (hSh : ∀ q, q < g → 1 ≤ Sh q) (hh1 : 1 ≤ h1) (hh2 : 1 ≤ h2) {k : Nat} (hk : k < g) (hk1 : 1 ≤ k) (c1 : h1 * s (od k) * ns g Sh < ns k (fun i => Sh (od i)) * (h1 * s (od k) + h2 * f (od k))) (c2 : ns k (fun i => Sh (od i)) * (h1 * s (od (k - 1)) + h2 * f (od (k - 1))) < h1 * s (od (k - 1)) * ns g Sh) : ∃ rm, ns k (fun i => Sh (od i)) + rm = ns g Sh ∧ 1 ≤ rm ∧ prest g f s Sh h1 h2 (ns k (fun i => Sh (od i)) * h2) (rm * h1) := by
  have ok := hs.1 k hk
  have ok1 := hs.1 (k - 1) (by omega)
  obtain ⟨rm, erm, hrm⟩ : ∃ rm, ns k (fun i => Sh (od i)) + rm = ns g Sh ∧ 1 ≤ rm := by
    have a1 := sum_lo (k := k + 1) (Sh := Sh) (B := fun _ => true) hs (by omega) (fun _ _ => rfl)
    have e1 : ns (k + 1) (fun i => Sh (od i)) = ns k (fun i => Sh (od i)) + Sh (od k) := rfl
    have e2 : ns g (fun q => if (fun _ => true) q = true then Sh q else 0) = ns g Sh := ns_congr (fun i _ => by simp)
    rw [e1, e2] at a1
    have := hSh _ ok
    exact ⟨ns g Sh - ns k (fun i => Sh (od i)), by omega, by omega⟩
  have pd1 : 1 ≤ ns k (fun i => Sh (od i)) := by
    by_cases z : ns k (fun i => Sh (od i)) = 0
    · rw [z] at c1; omega
    · omega
  -- strictly on either side
  have lo : ∀ i, i < k → f (od i) * (ns k (fun i => Sh (od i)) * h2) ≤ s (od i) * (rm * h1) := by
    intro i hi
    have q := srt_le hs (i := i) (j := k - 1) (by omega) (by omega)
    have p1 := hsp _ ok1
    rw [← erm] at c2
    generalize ns k (fun i => Sh (od i)) = pd at *
    have e3 : f (od (k - 1)) * (pd * h2) ≤ s (od (k - 1)) * (rm * h1) := by grind
    refine m_cancel p1 ?_
    have a1 := Nat.mul_le_mul_right (pd * h2) q
    have a2 := Nat.mul_le_mul_left (s (od i)) e3
    grind
  have hi : ∀ i, k ≤ i → i < g → s (od i) * (rm * h1) ≤ f (od i) * (ns k (fun i => Sh (od i)) * h2) := by
    intro i hki hig
    have q := srt_le hs (i := k) (j := i) hki hig
    have p1 := hsp _ ok
    rw [← erm] at c1
    generalize ns k (fun i => Sh (od i)) = pd at *
    have e3 : s (od k) * (rm * h1) ≤ f (od k) * (pd * h2) := by grind
    refine m_cancel p1 ?_
    have a1 := Nat.mul_le_mul_right (pd * h2) q
    have a2 := Nat.mul_le_mul_left (s (od i)) e3
    grind
  have a1 := sum_lo (k := k) (Sh := Sh) (B := fun q => decide (f q * (ns k (fun i => Sh (od i)) * h2) ≤ s q * (rm * h1))) hs (by omega) (fun i hi => decide_eq_true (lo i hi))
  have a2 := sum_hi (k := k) (Sh := Sh) (B := fun q => decide (s q * (rm * h1) ≤ f q * (ns k (fun i => Sh (od i)) * h2))) hs (by omega) (fun i h1 h2 => decide_eq_true (hi i h1 h2))
  simp only [decide_eq_true_eq] at a1 a2
  refine ⟨rm, erm, hrm, Nat.mul_pos pd1 hh2, Nat.mul_pos hrm hh1, ?_, ?_⟩
  · generalize ns g (fun q => if f q * (ns k (fun i => Sh (od i)) * h2) ≤ s q * (rm * h1) then Sh q else 0) = X at a1 ⊢
    rw [← erm]
    generalize ns k (fun i => Sh (od i)) = pd at *
    have a3 := Nat.mul_le_mul_left (h1 * (pd * h2) + h2 * (rm * h1)) a1
    grind
  · generalize ns g (fun q => if s q * (rm * h1) ≤ f q * (ns k (fun i => Sh (od i)) * h2) then Sh q else 0) = X at a2 ⊢
    rw [← erm] at a2 ⊢
    generalize ns k (fun i => Sh (od i)) = pd at *
    have a4 : rm ≤ X := by omega
    have a3 := Nat.mul_le_mul_left (h1 * (pd * h2) + h2 * (rm * h1)) a4
    grind
end ST
