/-! one of the rows that the reference tries is at rest -/
theorem cyc.sum {a b c : Nat} (y : cyc a b c) (F : Nat → Nat) : ns 3 F = F a + F b + F c := by
  have e : ns 3 F = F 0 + F 1 + F 2 := by show 0 + F 0 + F 1 + F 2 = _; omega
  obtain ⟨y1, y2, y3, y4, y5, y6⟩ := y
  rw [e]
  rcases (show (a = 0 ∧ b = 1 ∧ c = 2) ∨ (a = 0 ∧ b = 2 ∧ c = 1) ∨ (a = 1 ∧ b = 0 ∧ c = 2) ∨ (a = 1 ∧ b = 2 ∧ c = 0) ∨ (a = 2 ∧ b = 0 ∧ c = 1) ∨ (a = 2 ∧ b = 1 ∧ c = 0) by omega) with ⟨rfl, rfl, rfl⟩ | ⟨rfl, rfl, rfl⟩ | ⟨rfl, rfl, rfl⟩ | ⟨rfl, rfl, rfl⟩ | ⟨rfl, rfl, rfl⟩ | ⟨rfl, rfl, rfl⟩ <;> omega
section CP
variable {g : Nat} {A : Nat → Nat → Nat} {H Sh W : Nat → Nat}
/-- l makes q at wages W -/
abbrev mks (A : Nat → Nat → Nat) (W : Nat → Nat) (l q : Nat) : Prop := ∀ k, k < 3 → W l * A l q ≤ W k * A k q
theorem mks_ex {q : Nat} : ∃ l, l < 3 ∧ mks A W l q := by
  obtain ⟨i, hi, ei⟩ := lst_in (n := 2) (c := fun l => W l * A l q)
  refine ⟨i, by omega, fun k hk => ?_⟩
  have := lst_le (n := 2) (c := fun l => W l * A l q) k (by omega)
  try dsimp only at ei this
  omega
theorem gd7 (R : Nat → Nat) (e : Nat) (he : e < 3) (h : restN 3 g A H Sh W) (hR : ∀ l, l < 3 → 1 ≤ R l) (hp : ∀ l, l < 3 → W e * R l = R e * W l) : gd 3 g A H Sh 7 R :=
  (gd_full (m := 3) (by omega)).mpr ⟨hR, restN_of (by omega) h (h.1 e he) (hR e he) hR hp⟩
theorem c_B2 (D : dat 3 g A H Sh) (h : restN 3 g A H Sh W) {a b c j q : Nat} (y : cyc a b c) (hj : j < g) (hq : q < g) (e1 : W a * A a j = W b * A b j) (e2 : W b * A b q = W c * A c q) : gd 3 g A H Sh 7 (rB2 A a b c j q) := by
  have yy := y
  obtain ⟨y1, y2, y3, y4, y5, y6⟩ := y
  have b1 := D.2.2.2.2 a j y1 hj
  have b2 := D.2.2.2.2 b j y2 hj
  have b3 := D.2.2.2.2 b q y2 hq
  have b4 := D.2.2.2.2 c q y3 hq
  refine gd7 (W := W) _ b y2 h (fun l hl => ?_) (fun l hl => ?_)
  · unfold rB2
    rcases yy.is hl with rfl | rfl | rfl
    · rw [rw3_a]; exact Nat.mul_pos b2.1 b4.1
    · rw [rw3_b y4]; exact Nat.mul_pos b1.1 b4.1
    · rw [rw3_c y5 y6]; exact Nat.mul_pos b1.1 b3.1
  · unfold rB2
    rw [rw3_b y4]
    rcases yy.is hl with rfl | rfl | rfl
    · rw [rw3_a]
      grind
    · rw [rw3_b y4, Nat.mul_comm]
    · rw [rw3_c y5 y6]
      grind
/-- a land that shares no good: its income is what its goods get -/
theorem c_core (D : dat 3 g A H Sh) (h : restN 3 g A H Sh W) {a b c : Nat} (y : cyc a b c) (hn : ∀ q, q < g → mks A W c q → ¬ mks A W a q ∧ ¬ mks A W b q) : H c * W c * ns g Sh = (H a * W a + H b * W b + H c * W c) * ns g (fun q => if mks A W c q then Sh q else 0) := by
  have hm : 1 ≤ 3 ∧ 3 ≤ 3 := by omega
  have yy := y
  obtain ⟨y1, y2, y3, y4, y5, y6⟩ := y
  obtain ⟨t, ht, bt⟩ := num_of (m := 3) (by omega) (fun l => decide (l = c))
  obtain ⟨u, hu, bu⟩ := num_of (m := 3) (by omega) (fun l => decide (l ≠ c))
  have o1 := h.2 t ht
  have o2 := h.2 u hu
  have ba : ∀ x, x < 3 → x ≠ c → t.testBit x = false ∧ u.testBit x = true := fun x hx nx => ⟨by rw [bt x hx]; exact decide_eq_false nx, by rw [bu x hx]; exact decide_eq_true nx⟩
  have bc : t.testBit c = true ∧ u.testBit c = false := ⟨by rw [bt c y3]; exact decide_eq_true rfl, by rw [bu c y3]; exact decide_eq_false (fun k => k rfl)⟩
  have iY : incN 3 H W (2 ^ 3 - 1) = H a * W a + H b * W b + H c * W c := by
    unfold incN
    rw [yy.sum, if_pos (full_bit (by omega) y1), if_pos (full_bit (by omega) y2), if_pos (full_bit (by omega) y3)]
  have it : incN 3 H W t = H c * W c := by
    unfold incN
    rw [yy.sum, (ba a y1 y5).1, (ba b y2 y6).1, bc.1, if_neg (by decide), if_neg (by decide), if_pos rfl]
    omega
  have iu : incN 3 H W u = H a * W a + H b * W b := by
    unfold incN
    rw [yy.sum, (ba a y1 y5).2, (ba b y2 y6).2, bc.2, if_pos rfl, if_pos rfl, if_neg (by decide)]
    omega
  have gt := gts_if (Sh := Sh) (m := 3) (g := g) (A := A) (W := W) (t := t) (B := fun q => mks A W c q) (fun q hq => by
    rw [nz_iff hm]
    constructor
    · rintro ⟨l, hl, tl, k⟩
      have : l = c := by
        by_cases e : l = c
        · exact e
        · rw [(ba l hl e).1] at tl; cases tl
      rw [← this]; exact k
    · intro k
      exact ⟨c, y3, bc.1, k⟩)
  have gu := gts_if (Sh := Sh) (m := 3) (g := g) (A := A) (W := W) (t := u) (B := fun q => ¬ mks A W c q) (fun q hq => by
    rw [nz_iff hm]
    constructor
    · rintro ⟨l, hl, tl, k⟩ kc
      have n := hn q hq kc
      rcases yy.is hl with rfl | rfl | rfl
      · exact n.1 k
      · exact n.2 k
      · rw [bc.2] at tl; cases tl
    · intro k
      obtain ⟨l, hl, ml⟩ := mks_ex (A := A) (W := W) (q := q)
      have : l ≠ c := fun e => k (e ▸ ml)
      exact ⟨l, hl, (ba l hl this).2, ml⟩)
  have gs : ns g (fun q => if mks A W c q then Sh q else 0) + ns g (fun q => if ¬ mks A W c q then Sh q else 0) = ns g Sh := by
    rw [← ns_add]
    refine ns_congr (fun q _ => ?_)
    by_cases k : mks A W c q
    · rw [if_pos k, if_neg (fun z => z k)]; rfl
    · rw [if_neg k, if_pos k]; omega
  unfold okN at o1 o2
  rw [it, iY, gt] at o1
  rw [iu, iY, gu] at o2
  rw [← gs] at o1 o2 ⊢
  generalize ns g (fun q => if mks A W c q then Sh q else 0) = P at *
  generalize ns g (fun q => if ¬ mks A W c q then Sh q else 0) = Q at *
  generalize H a * W a + H b * W b = X at *
  generalize H c * W c = Z at *
  apply Nat.le_antisymm o1
  grind
theorem own_of (g : Nat) (Sh : Nat → Nat) (B : Nat → Prop) [∀ q, Decidable (B q)] : ∃ s, s < 2 ^ g ∧ own g Sh s = ns g (fun q => if B q then Sh q else 0) := by
  obtain ⟨s, h1, h2⟩ := dg_ex (β := 2) (by omega) (fun q => if B q then 1 else 0) g (fun q _ => by split <;> omega)
  refine ⟨s, h1, ns_congr (fun q hq => ?_)⟩
  have e := h2 q hq
  unfold dg at e
  rw [Nat.testBit_eq_decide_div_mod_eq]
  by_cases k : B q
  · rw [if_pos k] at e ⊢
    rw [if_pos (decide_eq_true e)]
  · rw [if_neg k] at e ⊢
    rw [if_neg (fun z => by have := of_decide_eq_true z; omega)]
theorem c_B1 (D : dat 3 g A H Sh) (h : restN 3 g A H Sh W) {a b c j : Nat} (y : cyc a b c) (hj : j < g) (e1 : W a * A a j = W b * A b j) (hn : ∀ q, q < g → mks A W c q → ¬ mks A W a q ∧ ¬ mks A W b q) : ∃ s, 1 ≤ s ∧ s < 2 ^ g ∧ gd 3 g A H Sh 7 (rB1 g A H Sh a b c j s) := by
  have core := c_core D h y hn
  have yy := y
  obtain ⟨y1, y2, y3, y4, y5, y6⟩ := y
  obtain ⟨s, s1, s2⟩ := own_of g Sh (fun q => mks A W c q)
  have b1 := D.2.2.2.2 a j y1 hj
  have b2 := D.2.2.2.2 b j y2 hj
  have pa : 1 ≤ H a * W a := Nat.mul_pos (D.2.2.1 a y1).1 (h.1 a y1)
  have pb : 1 ≤ H b * W b := Nat.mul_pos (D.2.2.1 b y2).1 (h.1 b y2)
  have pc : 1 ≤ H c * W c := Nat.mul_pos (D.2.2.1 c y3).1 (h.1 c y3)
  have hc := (D.2.2.1 c y3).1
  have ha := (D.2.2.1 a y1).1
  have sp : 1 ≤ ns g Sh := by
    have g1 := D.2.1.1
    have : ns g (fun _ => 1) ≤ ns g Sh := ns_mono (fun q hq => (D.2.2.2.1 q hq).1)
    have k : ∀ n, ns n (fun _ => 1) = n := by
      intro n
      induction n with
      | zero => rfl
      | succ n ih => show ns n (fun _ => 1) + 1 = n + 1; rw [ih]
    rw [k] at this
    omega
  rw [← s2] at core
  have ol := own_le (g := g) (Sh := Sh) (s := s)
  have o1 : 1 ≤ own g Sh s := by
    by_cases z : own g Sh s = 0
    · rw [z, Nat.mul_zero] at core
      have := Nat.mul_pos pc sp
      omega
    · omega
  obtain ⟨rm, erm⟩ : ∃ rm, ns g Sh - own g Sh s = rm := ⟨_, rfl⟩
  have et : ns g Sh = rm + own g Sh s := by omega
  have r1 : 1 ≤ rm := by
    by_cases z : rm = 0
    · exfalso
      rw [z, Nat.zero_add] at et
      rw [et] at core
      have k1 : H c * W c * own g Sh s < (H a * W a + H b * W b + H c * W c) * own g Sh s := Nat.mul_lt_mul_of_pos_right (by omega) o1
      omega
    · omega
  have zr : H c * W c * rm = (H a * W a + H b * W b) * own g Sh s := by
    rw [et] at core
    generalize own g Sh s = P at *
    generalize H a * W a + H b * W b = X at *
    generalize H c * W c = Z at *
    grind
  have sn : 1 ≤ s := by
    by_cases z : s = 0
    · exfalso
      rw [z] at o1
      have : own g Sh 0 = 0 := by
        unfold own
        rw [show (fun q => if (0 : Nat).testBit q = true then Sh q else 0) = fun _ => 0 from funext fun q => by rw [Nat.zero_testBit]; rfl]
        have := ns_le (n := g) (b := 0) (f := fun _ => 0) (fun _ _ => Nat.le_refl _)
        omega
      omega
    · omega
  refine ⟨s, sn, s1, gd7 (W := W) _ a y1 h (fun l hl => ?_) (fun l hl => ?_)⟩
  · unfold rB1
    rw [erm]
    rcases yy.is hl with rfl | rfl | rfl
    · rw [rw3_a]; exact Nat.mul_pos b2.1 (Nat.mul_pos r1 hc)
    · rw [rw3_b y4]; exact Nat.mul_pos b1.1 (Nat.mul_pos r1 hc)
    · rw [rw3_c y5 y6]
      refine Nat.mul_pos ?_ o1
      have : 1 ≤ H a * A b j := Nat.mul_pos ha b2.1
      omega
  · unfold rB1
    rw [erm, rw3_a]
    rcases yy.is hl with rfl | rfl | rfl
    · rw [rw3_a, Nat.mul_comm]
    · rw [rw3_b y4]
      grind
    · rw [rw3_c y5 y6]
      generalize own g Sh s = P at *
      have e2 : W a * ((H a * A b j + H b * A a j) * P) = A b j * ((H a * W a + H b * W b) * P) := by grind
      rw [e2, ← zr]
      grind
theorem c_P3 (D : dat 3 g A H Sh) (h : restN 3 g A H Sh W) (hn : ∀ a b q, a < 3 → b < 3 → a ≠ b → q < g → mks A W a q → ¬ mks A W b q) : ∃ w, w < 3 ^ g ∧ gd 3 g A H Sh 7 (rP3 g H Sh w) := by
  obtain ⟨w, w1, w2⟩ := dg_ex (β := 3) (by omega) (fun q => if mks A W 0 q then 0 else if mks A W 1 q then 1 else 2) g (fun q _ => by split; omega; split <;> omega)
  have hb := D.2.2.1
  have b0 := (hb 0 (by omega)).1
  have b1 := (hb 1 (by omega)).1
  have b2 := (hb 2 (by omega)).1
  have P : ∀ l, l < 3 → pt 3 w Sh l g = ns g (fun q => if mks A W l q then Sh q else 0) := by
    intro l hl
    unfold pt
    refine ns_congr (fun q hq => ?_)
    rw [w2 q hq]
    obtain ⟨k, hk, mk⟩ := mks_ex (A := A) (W := W) (q := q)
    by_cases m0 : mks A W 0 q
    · have n1 := hn 0 1 q (by omega) (by omega) (by omega) hq m0
      have n2 := hn 0 2 q (by omega) (by omega) (by omega) hq m0
      rw [if_pos m0]
      rcases (show l = 0 ∨ l = 1 ∨ l = 2 by omega) with rfl | rfl | rfl
      · rw [if_pos rfl, if_pos m0]
      · rw [if_neg (by omega), if_neg n1]
      · rw [if_neg (by omega), if_neg n2]
    · by_cases m1 : mks A W 1 q
      · have n2 := hn 1 2 q (by omega) (by omega) (by omega) hq m1
        rw [if_neg m0, if_pos m1]
        rcases (show l = 0 ∨ l = 1 ∨ l = 2 by omega) with rfl | rfl | rfl
        · rw [if_neg (by omega), if_neg m0]
        · rw [if_pos rfl, if_pos m1]
        · rw [if_neg (by omega), if_neg n2]
      · have m2 : mks A W 2 q := by
          rcases (show k = 0 ∨ k = 1 ∨ k = 2 by omega) with rfl | rfl | rfl
          · exact absurd mk m0
          · exact absurd mk m1
          · exact mk
        rw [if_neg m0, if_neg m1]
        rcases (show l = 0 ∨ l = 1 ∨ l = 2 by omega) with rfl | rfl | rfl
        · rw [if_neg (by omega), if_neg m0]
        · rw [if_neg (by omega), if_neg m1]
        · rw [if_pos rfl, if_pos m2]
  have c0 := c_core D h (a := 1) (b := 2) (c := 0) (by unfold cyc; omega) (fun q hq k => ⟨hn 0 1 q (by omega) (by omega) (by omega) hq k, hn 0 2 q (by omega) (by omega) (by omega) hq k⟩)
  have c1 := c_core D h (a := 0) (b := 2) (c := 1) (by unfold cyc; omega) (fun q hq k => ⟨hn 1 0 q (by omega) (by omega) (by omega) hq k, hn 1 2 q (by omega) (by omega) (by omega) hq k⟩)
  have c2 := c_core D h (a := 0) (b := 1) (c := 2) (by unfold cyc; omega) (fun q hq k => ⟨hn 2 0 q (by omega) (by omega) (by omega) hq k, hn 2 1 q (by omega) (by omega) (by omega) hq k⟩)
  rw [← P 0 (by omega)] at c0
  rw [← P 1 (by omega)] at c1
  rw [← P 2 (by omega)] at c2
  obtain ⟨Y, eY⟩ : ∃ Y, Y = H 0 * W 0 + H 1 * W 1 + H 2 * W 2 := ⟨_, rfl⟩
  rw [show H 1 * W 1 + H 2 * W 2 + H 0 * W 0 = Y by omega] at c0
  rw [show H 0 * W 0 + H 2 * W 2 + H 1 * W 1 = Y by omega] at c1
  rw [← eY] at c2
  have cl : ∀ l, l < 3 → H l * W l * ns g Sh = Y * pt 3 w Sh l g := fun l hl => by
    rcases (show l = 0 ∨ l = 1 ∨ l = 2 by omega) with rfl | rfl | rfl
    · exact c0
    · exact c1
    · exact c2
  have sp : 1 ≤ ns g Sh := by
    have g1 := D.2.1.1
    have : ns g (fun _ => 1) ≤ ns g Sh := ns_mono (fun q hq => (D.2.2.2.1 q hq).1)
    have k : ∀ n, ns n (fun _ => 1) = n := by
      intro n
      induction n with
      | zero => rfl
      | succ n ih => show ns n (fun _ => 1) + 1 = n + 1; rw [ih]
    rw [k] at this
    omega
  have dvd : ∀ l, l < 3 → H l ∣ H 0 * H 1 * H 2 := by
    intro l hl
    rcases (show l = 0 ∨ l = 1 ∨ l = 2 by omega) with rfl | rfl | rfl
    · exact ⟨H 1 * H 2, by grind⟩
    · exact ⟨H 0 * H 2, by grind⟩
    · exact ⟨H 0 * H 1, by grind⟩
  have R : ∀ l, l < 3 → rP3 g H Sh w l = pt 3 w Sh l g * (H 0 * H 1 * H 2 / H l) := by
    intro l hl
    unfold rP3
    rcases (show l = 0 ∨ l = 1 ∨ l = 2 by omega) with rfl | rfl | rfl
    · exact rw3_a
    · exact rw3_b (by omega)
    · exact rw3_c (by omega) (by omega)
  have RH : ∀ l, l < 3 → rP3 g H Sh w l * H l = pt 3 w Sh l g * (H 0 * H 1 * H 2) := by
    intro l hl
    rw [R l hl, Nat.mul_assoc, Nat.div_mul_cancel (dvd l hl)]
  have al : 1 ≤ H 0 * H 1 * H 2 := Nat.mul_pos (Nat.mul_pos b0 b1) b2
  refine ⟨w, w1, gd7 (W := W) _ 0 (by omega) h (fun l hl => ?_) (fun l hl => ?_)⟩
  · have p1 : 1 ≤ H l * W l * ns g Sh := Nat.mul_pos (Nat.mul_pos (hb l hl).1 (h.1 l hl)) sp
    rw [cl l hl] at p1
    have p2 : 1 ≤ pt 3 w Sh l g := by
      by_cases z : pt 3 w Sh l g = 0
      · rw [z] at p1; omega
      · omega
    have p3 := Nat.mul_pos p2 al
    rw [← RH l hl] at p3
    by_cases z : rP3 g H Sh w l = 0
    · rw [z, Nat.zero_mul] at p3; omega
    · omega
  · have x1 := cl 0 (by omega)
    have x2 := cl l hl
    have x3 := RH 0 (by omega)
    have x4 := RH l hl
    have pos : 0 < H 0 * H l * ns g Sh := Nat.mul_pos (Nat.mul_pos b0 (hb l hl).1) sp
    refine Nat.eq_of_mul_eq_mul_left pos ?_
    generalize rP3 g H Sh w l = rl at *
    generalize rP3 g H Sh w 0 = r0 at *
    generalize pt 3 w Sh l g = pl at *
    generalize pt 3 w Sh 0 g = p0 at *
    generalize ns g Sh = s at *
    generalize H 0 * H 1 * H 2 = hh at *
    have y1 : H 0 * H l * s * (W 0 * rl) = (H 0 * W 0 * s) * (rl * H l) := by grind
    have y2 : H 0 * H l * s * (r0 * W l) = (H l * W l * s) * (r0 * H 0) := by grind
    rw [y1, y2, x1, x2, x3, x4]
    grind
/-- all rows that are tried with three lands -/
theorem c_all (D : dat 3 g A H Sh) (h : restN 3 g A H Sh W) : (∃ a b c, ((a = 0 ∧ b = 1 ∧ c = 2) ∨ (a = 1 ∧ b = 2 ∧ c = 0) ∨ (a = 2 ∧ b = 0 ∧ c = 1)) ∧ ∃ j, j < g ∧ ((∃ s, 1 ≤ s ∧ s < 2 ^ g ∧ gd 3 g A H Sh 7 (rB1 g A H Sh a b c j s)) ∨ ∃ q, q < g ∧ gd 3 g A H Sh 7 (rB2 A a b c j q))) ∨ ∃ w, w < 3 ^ g ∧ gd 3 g A H Sh 7 (rP3 g H Sh w) := by
  have te : ∀ a b q, a < 3 → b < 3 → mks A W a q → mks A W b q → W a * A a q = W b * A b q := fun a b q ha hb h1 h2 => Nat.le_antisymm (h1 b hb) (h2 a ha)
  have y012 : cyc 0 1 2 := by unfold cyc; omega
  have y120 : cyc 1 2 0 := by unfold cyc; omega
  have y201 : cyc 2 0 1 := by unfold cyc; omega
  by_cases t01 : ∃ q, q < g ∧ mks A W 0 q ∧ mks A W 1 q
  · obtain ⟨j, hj, j0, j1⟩ := t01
    by_cases t12 : ∃ q, q < g ∧ mks A W 1 q ∧ mks A W 2 q
    · obtain ⟨q, hq, q1, q2⟩ := t12
      exact Or.inl ⟨0, 1, 2, Or.inl ⟨rfl, rfl, rfl⟩, j, hj, Or.inr ⟨q, hq, c_B2 D h y012 hj hq (te 0 1 j (by omega) (by omega) j0 j1) (te 1 2 q (by omega) (by omega) q1 q2)⟩⟩
    · by_cases t20 : ∃ q, q < g ∧ mks A W 2 q ∧ mks A W 0 q
      · obtain ⟨q, hq, q2, q0⟩ := t20
        exact Or.inl ⟨2, 0, 1, Or.inr (Or.inr ⟨rfl, rfl, rfl⟩), q, hq, Or.inr ⟨j, hj, c_B2 D h y201 hq hj (te 2 0 q (by omega) (by omega) q2 q0) (te 0 1 j (by omega) (by omega) j0 j1)⟩⟩
      · obtain ⟨s, s1, s2, s3⟩ := c_B1 D h y012 hj (te 0 1 j (by omega) (by omega) j0 j1) (fun q hq k => ⟨fun z => t20 ⟨q, hq, k, z⟩, fun z => t12 ⟨q, hq, z, k⟩⟩)
        exact Or.inl ⟨0, 1, 2, Or.inl ⟨rfl, rfl, rfl⟩, j, hj, Or.inl ⟨s, s1, s2, s3⟩⟩
  · by_cases t12 : ∃ q, q < g ∧ mks A W 1 q ∧ mks A W 2 q
    · obtain ⟨j, hj, j1, j2⟩ := t12
      by_cases t20 : ∃ q, q < g ∧ mks A W 2 q ∧ mks A W 0 q
      · obtain ⟨q, hq, q2, q0⟩ := t20
        exact Or.inl ⟨1, 2, 0, Or.inr (Or.inl ⟨rfl, rfl, rfl⟩), j, hj, Or.inr ⟨q, hq, c_B2 D h y120 hj hq (te 1 2 j (by omega) (by omega) j1 j2) (te 2 0 q (by omega) (by omega) q2 q0)⟩⟩
      · obtain ⟨s, s1, s2, s3⟩ := c_B1 D h y120 hj (te 1 2 j (by omega) (by omega) j1 j2) (fun q hq k => ⟨fun z => t01 ⟨q, hq, k, z⟩, fun z => t20 ⟨q, hq, z, k⟩⟩)
        exact Or.inl ⟨1, 2, 0, Or.inr (Or.inl ⟨rfl, rfl, rfl⟩), j, hj, Or.inl ⟨s, s1, s2, s3⟩⟩
    · by_cases t20 : ∃ q, q < g ∧ mks A W 2 q ∧ mks A W 0 q
      · obtain ⟨j, hj, j2, j0⟩ := t20
        obtain ⟨s, s1, s2, s3⟩ := c_B1 D h y201 hj (te 2 0 j (by omega) (by omega) j2 j0) (fun q hq k => ⟨fun z => t12 ⟨q, hq, k, z⟩, fun z => t01 ⟨q, hq, z, k⟩⟩)
        exact Or.inl ⟨2, 0, 1, Or.inr (Or.inr ⟨rfl, rfl, rfl⟩), j, hj, Or.inl ⟨s, s1, s2, s3⟩⟩
      · refine Or.inr (c_P3 D h (fun a b q ha hb nab hq ka kb => ?_))
        rcases (show a = 0 ∨ a = 1 ∨ a = 2 by omega) with rfl | rfl | rfl <;> rcases (show b = 0 ∨ b = 1 ∨ b = 2 by omega) with rfl | rfl | rfl
        · omega
        · exact t01 ⟨q, hq, ka, kb⟩
        · exact t20 ⟨q, hq, kb, ka⟩
        · exact t01 ⟨q, hq, kb, ka⟩
        · omega
        · exact t12 ⟨q, hq, ka, kb⟩
        · exact t20 ⟨q, hq, ka, kb⟩
        · exact t12 ⟨q, hq, kb, ka⟩
        · omega
end CP
