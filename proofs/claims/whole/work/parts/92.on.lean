/-! take, keepAhead, note; on, learn -/
section TK
variable {C M C' M' S S' : Zs} {m g : Nat} {A : Nat → Nat → Nat} {H Sh W : Nat → Nat}
theorem II_world (h : II C M) (hW : iW C' M') (c1 : ∀ a, 3 ≤ a → a < 18 → C'.1 a = C.1 a) (c2 : C'.1 0 11 = C.1 0 11) (m0 : ∀ b, b = 1 ∨ b = 16 ∨ b = 17 ∨ b = 36 → M'.1 0 b = M.1 0 b) (m1 : ∀ a, a = 1 ∨ a = 2 ∨ a = 3 ∨ a = 10 ∨ a = 17 → M'.1 a = M.1 a) : II C' M' := by
  obtain ⟨h1, h2, h3, h4, h5⟩ := h
  exact ⟨iR_fr h1 (fun a x1 x2 => c1 a (by omega) (by omega)) (fun a x1 x2 => m1 a (by omega)), iT_fr h2 (by rw [c1 13 (by omega) (by omega)]) (by rw [c1 13 (by omega) (by omega)]) (c1 14 (by omega) (by omega)) (m0 _ (by omega)) (m0 _ (by omega)) (m1 _ (by omega)), hW, iX_fr h4 (by rw [c1 15 (by omega) (by omega)]) (c1 16 (by omega) (by omega)) (m0 _ (by omega)) (m1 _ (by omega)), iS_fr h5 c2 (m0 _ (by omega))⟩
/-- what take writes -/
def tkn (S S' : Zs) (o q : Nat) : Prop := (S'.1 o 0 = S.1 q 0 ∧ S'.1 o 1 = S.1 q 1 ∧ (∀ b, b < 6 → S'.1 (o + 1) b = S.1 (q + 1) b) ∧ (∀ b, b < 3 → S'.1 (o + 2) b = S.1 (q + 2) b) ∧ (∀ b, b < 3 → S'.2 (o + 7) b = S.2 (q + 7) b) ∧ ∀ l, l < 3 → ∀ b, b < 6 → S'.1 (o + 4 + l) b = S.1 (q + 4 + l) b) ∧ (∀ x, (x < o ∨ o + 7 ≤ x) → S'.1 x = S.1 x) ∧ ∀ x, x ≠ o + 7 → S'.2 x = S.2 x
theorem p5_tk61 {o q : Nat} (hd : o + 9 ≤ q ∨ q + 9 ≤ o) : ∀ n j (S : Zs), j ≤ 3 → 3 - j < n → ∃ S', f5_take_61 o q n (nI j) S = some S' ∧ S'.2 = S.2 ∧ (∀ x, (x < o + 4 + j ∨ o + 7 ≤ x) → S'.1 x = S.1 x) ∧ ∀ l, j ≤ l → l < 3 → ∀ b, b < 6 → S'.1 (o + 4 + l) b = S.1 (q + 4 + l) b := by
  intro n
  induction n with
  | zero => intro j S _ h; omega
  | succ n ih =>
    intro j S hj hn
    rw [f5_take_61]
    dsimp only
    rw [show (3 : Int32) = nI 3 from rfl]
    by_cases e : 3 ≤ j
    · rw [if_pos (nI_le e (by omega))]
      exact ⟨S, rfl, rfl, fun _ _ => rfl, fun l h1 h2 => by omega⟩
    rw [if_neg (nI_ge (by omega) (by omega)), if_pos (inb_nI (by omega) (by decide)), if_pos (inb_nI (by omega) (by decide)), if_pos (by decide), ltt, ltt, nI_clamp (by omega), show nI j + 1 = nI (j + 1) from nI_1 _, show (0 : Int32).toNatClampNeg = 0 by decide, show (6 : Int32).toNatClampNeg = 6 by decide]
    obtain ⟨S', a1, a2, a3, a4⟩ := ih (j + 1) (zcI S (q + 4 + j) 0 (o + 4 + j) 0 6) (by omega) (by omega)
    refine ⟨S', a1, a2, fun x hx => ?_, fun l h1 h2 b hb => ?_⟩
    · rw [a3 x (by omega), zcI_1n _ _ _ _ _ (by omega)]
    · by_cases c : l = j
      · subst c
        rw [a3 _ (by omega), zcI_1, pk_cpy_in (by omega) (by omega), Nat.zero_add, Nat.sub_zero]
      · rw [a4 l (by omega) h2 b hb, zcI_1n _ _ _ _ _ (by omega)]
theorem p5_take {o q : Nat} (hd : o + 9 ≤ q ∨ q + 9 ≤ o) (S : Zs) : ∃ S', f5_take o q S = some S' ∧ tkn S S' o q := by
  unfold f5_take
  rw [ltt, ltt, if_pos (by decide), ltt, if_pos (by decide), ltt, if_pos (by decide), ltt, show (0 : Int32).toNatClampNeg = 0 by decide, show (6 : Int32).toNatClampNeg = 6 by decide, show (3 : Int32).toNatClampNeg = 3 by decide]
  generalize e1 : zI S o 0 (S.1 q 0) = S1
  generalize e2 : zI S1 o 1 (S1.1 q 1) = S2
  generalize e3 : zcI S2 (q + 1) 0 (o + 1) 0 6 = S3
  generalize e4 : zcI S3 (q + 2) 0 (o + 2) 0 3 = S4
  generalize e5 : zcL S4 (q + 7) 0 (o + 7) 0 3 = S5
  obtain ⟨S6, a1, a2, a3, a4⟩ := p5_tk61 hd fuel0 0 S5 (by omega) (by unfold fuel0; omega)
  have n1 : ∀ x, x ≠ o → S1.1 x = S.1 x := fun x h => by rw [← e1, zI_1n _ _ _ h]
  have n2 : ∀ x, x ≠ o → S2.1 x = S.1 x := fun x h => by rw [← e2, zI_1n _ _ _ h, n1 x h]
  have n3 : ∀ x, x ≠ o → x ≠ o + 1 → S3.1 x = S.1 x := fun x h h' => by rw [← e3, zcI_1n _ _ _ _ _ h', n2 x h]
  have n4 : ∀ x, x ≠ o → x ≠ o + 1 → x ≠ o + 2 → S4.1 x = S.1 x := fun x h h' h2 => by rw [← e4, zcI_1n _ _ _ _ _ h2, n3 x h h']
  have n5 : S5.1 = S4.1 := by rw [← e5]; rfl
  have l4 : S4.2 = S.2 := by rw [← e4, ← e3, ← e2, ← e1]; rfl
  refine ⟨S6, a1, ⟨?_, ?_, fun b hb => ?_, fun b hb => ?_, fun b hb => ?_, fun l hl b hb => ?_⟩, fun x hx => ?_, fun x hx => ?_⟩
  · rw [a3 o (by omega), n5, ← e4, zcI_1n _ _ _ _ _ (by omega), ← e3, zcI_1n _ _ _ _ _ (by omega), ← e2, zI_rd, if_neg (by omega), ← e1, zI_rd, if_pos ⟨rfl, rfl⟩]
  · rw [a3 o (by omega), n5, ← e4, zcI_1n _ _ _ _ _ (by omega), ← e3, zcI_1n _ _ _ _ _ (by omega), ← e2, zI_rd, if_pos ⟨rfl, rfl⟩, n1 q (by omega)]
  · rw [a3 _ (by omega), n5, ← e4, zcI_1n _ _ _ _ _ (by omega), ← e3, zcI_1, pk_cpy_in (by omega) (by omega), n2 _ (by omega), Nat.zero_add, Nat.sub_zero]
  · rw [a3 _ (by omega), n5, ← e4, zcI_1, pk_cpy_in (by omega) (by omega), n3 _ (by omega) (by omega), Nat.zero_add, Nat.sub_zero]
  · rw [a2, ← e5, zcL_2, pk_cpy_in (by omega) (by omega), l4, Nat.zero_add, Nat.sub_zero]
  · rw [a4 l (by omega) hl b hb, n5, n4 _ (by omega) (by omega) (by omega)]
  · rw [a3 x (by omega), n5, n4 x (by omega) (by omega) (by omega)]
  · rw [a2, ← e5, zcL_2n _ _ _ _ _ hx, l4]
theorem cW_tk {o q : Nat} (D : dat m g A H Sh) (c : cW S q m g A H Sh) (t : tkn S S' o q) : cW S' o m g A H Sh := by
  have d1 := D.1
  have d2 := D.2.1
  obtain ⟨⟨t1, t2, t3, t4, t5, t6⟩, -, -⟩ := t
  exact ⟨t1.trans c.1, t2.trans c.2.1, fun b hb => (t3 b (by omega)).trans (c.2.2.1 b hb), fun l hl => (t4 l (by omega)).trans (c.2.2.2.1 l hl), fun l b hl hb => (t6 l (by omega) b (by omega)).trans (c.2.2.2.2 l b hl hb)⟩
theorem cG_tk {o q : Nat} (D : dat m g A H Sh) (c : cG S (q + 7) m W) (t : tkn S S' o q) : cG S' (o + 7) m W := fun l hl => by
  have d1 := D.1
  rw [t.1.2.2.2.2.1 l (by omega)]
  exact c l hl
theorem p6_keep (D : dat m g A H Sh) (c : cW C 37 m g A H Sh) (G : cG C 44 m W) : ∃ C', f6_keepAhead C = some C' ∧ C'.1 0 10 = 1 ∧ (∀ b, b ≠ 10 → C'.1 0 b = C.1 0 b) ∧ (∀ a, a ≠ 0 → (a < 46 ∨ 53 ≤ a) → C'.1 a = C.1 a) ∧ (∀ a, a ≠ 53 → C'.2 a = C.2 a) ∧ cW C' 46 m g A H Sh ∧ cG C' 53 m W := by
  obtain ⟨S1, a1, a2⟩ := p5_take (o := 46) (q := 37) (by omega) C
  unfold f6_keepAhead
  rw [a1, bd1s, ltt]
  have d1 := D.1
  refine ⟨_, rfl, by rw [zI_rd, if_pos ⟨rfl, rfl⟩], fun b hb => ?_, fun a h1 h2 => ?_, fun a h => ?_, ?_, ?_⟩
  · rw [zI_rd, if_neg (fun q => hb q.2), a2.2.1 0 (by omega)]
  · rw [zI_1n _ _ _ h1, a2.2.1 a (by omega)]
  · exact a2.2.2 a (by omega)
  · exact cW_same (cW_tk D c a2) (by omega) ⟨fun a x1 x2 => zI_1n _ _ _ (by omega), rfl⟩
  · have k := cG_tk (o := 46) (q := 37) D G a2
    exact k
theorem mW_1 (c : mW S m g A H Sh) (e : S'.1 = S.1) : mW S' m g A H Sh := by
  unfold mW
  rw [e]
  exact c
/-- reals noted up to land j, good i -/
def ntd (S : Zs) (m g : Nat) (A : Nat → Nat → Nat) (W : Nat → Nat) (j i : Nat) : Prop := ∀ l q, l < m → q < g → (l < j ∨ (l = j ∧ q < i)) → S.2 15 (6 * l + q) = lN (frc (W l) (lst (m - 1) (fun k => W k * A k q)) 0) ∧ S.2 16 (6 * l + q) = lN (frc (W l) (lst (m - 1) (fun k => W k * A k q)) 1)
theorem p7_note16 (D : dat m g A H Sh) (c : mW M m g A H Sh) (rW : restN m g A H Sh W) {R : Nat → Nat} (G : cG M 11 3 R) (rR : restN m g A H Sh R) {j : Nat} (hj : j < m) (k : Int32 → Zs → Option Zs) : ∀ n i (S : Zs), i ≤ g → g - i < n → S.1 = M.1 → (∀ a, a ≠ 15 → a ≠ 16 → S.2 a = M.2 a) → ntd S m g A W j i → ∃ S', f7_note_16 k n (nI j) (nI i) S = k (nI (j + 1)) S' ∧ S'.1 = M.1 ∧ (∀ a, a ≠ 15 → a ≠ 16 → S'.2 a = M.2 a) ∧ ntd S' m g A W j g := by
  have d1 := D.1
  have d2 := D.2.1
  intro n
  induction n with
  | zero => intro i S _ h; omega
  | succ n ih =>
    intro i S hi hn e1 e2 nt
    have cS : mW S m g A H Sh := mW_1 c e1
    have GS : cG S 11 3 R := fun l hl => by rw [e2 11 (by decide) (by decide)]; exact G l hl
    rw [f7_note_16]
    dsimp only
    rw [cS.2.1]
    by_cases e : g ≤ i
    · rw [if_pos (nI_le e (by omega)), ltt, show nI j + 1 = nI (j + 1) from nI_1 _]
      exact ⟨S, rfl, e1, e2, by rw [show g = i by omega] at nt ⊢; exact nt⟩
    have hq : i < g := by omega
    have b1 := (GS j (by omega)).2
    have k2 := lst_bd D (fun l hl => GS l (by omega)) hq
    have p2 := lst_pos D rR.1 hq
    have fe : ∀ w, frc (R j) (lst (m - 1) (fun k => R k * A k i)) w = frc (W j) (lst (m - 1) (fun k => W k * A k i)) w := fun w => frc_one (rR.1 j hj) p2 (rW.1 j hj) (lst_pos D rW.1 hq) (by rw [Nat.mul_comm, lst_rest D rW rR hj, Nat.mul_comm]) w
    rw [if_neg (nI_ge hq (by omega)), p7_priceE D cS GS hq, bd1s, if_pos (inb_nI (by omega) (by decide)), nI_clamp (by omega), (GS j (by omega)).1, p7_partOf (by omega) (by omega) p2, bd1s, ix6, if_pos (inb_nI (by omega) (by decide)), ltt, nI_clamp (show 6 * j + i < 2 ^ 31 by omega), if_pos (inb_nI (by omega) (by decide)), zL_2n _ _ _ (show 11 ≠ 15 by decide), (GS j (by omega)).1, p7_partOf (by omega) (by omega) p2, bd1s, if_pos (inb_nI (by omega) (by decide)), ltt, ltt, show nI i + 1 = nI (i + 1) from nI_1 _, fe, fe]
    refine ih (i + 1) _ (by omega) (by omega) e1 (fun a h1 h2 => ?_) (fun l q hl hq' hlq => ?_)
    · rw [zL_2n _ _ _ h2, zL_2n _ _ _ h1, e2 a h1 h2]
    · by_cases cc : l = j ∧ q = i
      · obtain ⟨rfl, rfl⟩ := cc
        exact ⟨by rw [zL_2n _ _ _ (by decide), zL_rd, if_pos ⟨rfl, rfl⟩], by rw [zL_rd, if_pos ⟨rfl, rfl⟩]⟩
      · have ne : 6 * l + q ≠ 6 * j + i := by omega
        have := nt l q hl hq' (by omega)
        exact ⟨by rw [zL_2n _ _ _ (by decide), zL_rd, if_neg (fun z => ne z.2)]; exact this.1, by rw [zL_rd, if_neg (fun z => ne z.2), zL_2n _ _ _ (by decide)]; exact this.2⟩
theorem p7_note6 (D : dat m g A H Sh) (c : mW M m g A H Sh) (rW : restN m g A H Sh W) {R : Nat → Nat} (G : cG M 11 3 R) (rR : restN m g A H Sh R) : ∀ n j (S : Zs), j ≤ m → m - j < n → S.1 = M.1 → (∀ a, a ≠ 15 → a ≠ 16 → S.2 a = M.2 a) → ntd S m g A W j 0 → ∃ S', f7_note_6 n (nI j) S = some S' ∧ (∀ a b, ¬ (a = 0 ∧ b = 25) → S'.1 a b = M.1 a b) ∧ S'.1 0 25 = 1 ∧ (∀ a, a ≠ 15 → a ≠ 16 → S'.2 a = M.2 a) ∧ ntd S' m g A W m 0 := by
  have d1 := D.1
  have d2 := D.2.1
  intro n
  induction n with
  | zero => intro j S _ h; omega
  | succ n ih =>
    intro j S hj hn e1 e2 nt
    have cS : mW S m g A H Sh := mW_1 c e1
    rw [f7_note_6]
    dsimp only
    rw [cS.1]
    by_cases e : m ≤ j
    · rw [if_pos (nI_le e (by omega)), ltt]
      refine ⟨_, rfl, fun a b h => by rw [zI_rd, if_neg h, e1], by rw [zI_rd, if_pos ⟨rfl, rfl⟩], e2, ?_⟩
      rw [show j = m by omega] at nt
      exact nt
    · rw [if_neg (nI_ge (by omega) (by omega))]
      obtain ⟨S', a1, a2, a3, a4⟩ := p7_note16 D c rW G rR (j := j) (by omega) (f7_note_6 n) fuel0 0 S (by omega) (by unfold fuel0; omega) e1 e2 nt
      rw [show (0 : Int32) = nI 0 from rfl, a1]
      exact ih (j + 1) S' (by omega) (by omega) a2 a3 (fun l q hl hq h => a4 l q hl hq (by omega))
/-- both worlds keep what was: the class's ahead, the reference's reals -/
theorem II_keep (h : II C M) (v : iV C M m g A H Sh W) : ∃ C' M', f6_keepAhead C = some C' ∧ f7_note M = some M' ∧ II C' M' ∧ iV C' M' m g A H Sh W ∧ C'.1 0 10 = 1 := by
  obtain ⟨M1, R, a1, a2, a3, a4, a5, a6, a7⟩ := II_two h v
  obtain ⟨D, c37, g44, rW, mw, mk, ih⟩ := a3
  have d1 := D.1
  obtain ⟨C', b1, b2, b3, b4, b5, b6, b7⟩ := p6_keep D c37 g44
  obtain ⟨M', n1, n2, n3, n4, n5⟩ := p7_note6 D mw rW a5 a7 fuel0 0 M1 (by omega) (by unfold fuel0; omega) rfl (fun _ _ _ => rfl) (fun l q hl hq hh => by omega)
  have iv : iV C' M' m g A H Sh W := by
    refine ⟨D, cW_same c37 D.1.2 ⟨fun a x1 x2 => b4 a (by omega) (by omega), b5 44 (by decide)⟩, cG_same (o := 37) g44 ⟨fun a x1 x2 => b4 a (by omega) (by omega), b5 44 (by decide)⟩, rW, mW_fr2 mw (n2 _ _ (by omega)) (n2 _ _ (by omega)) (fun a x1 x2 => funext fun b => n2 a b (by omega)), ?_, Or.inr ⟨b2, n3, A, H, W, D, b6, b7, rW, fun l q hl hq => n5 l q hl hq (Or.inl hl)⟩⟩
    rcases mk with z | ⟨z, R', x1, x2⟩
    · exact Or.inl (by rw [n2 _ _ (by omega)]; exact z)
    · exact Or.inr ⟨by rw [n2 _ _ (by omega)]; exact z, R', fun l hl => by rw [n4 14 (by decide) (by decide)]; exact x1 l hl, x2⟩
  refine ⟨C', M', b1, ?_, II_world a2 (Or.inr ⟨m, g, A, H, Sh, W, iv⟩) (fun a x1 x2 => b4 a (by omega) (by omega)) (b3 _ (by decide)) (fun b hb => n2 _ _ (by omega)) (fun a ha => funext fun b => n2 a b (by omega)), iv, b2⟩
  unfold f7_note
  rw [a1, bd1s]
  exact n1
/-! on -/
theorem frc_at {x y : Nat} : x = Nat.gcd x y * frc x y 0 ∧ y = Nat.gcd x y * frc x y 1 := by
  unfold frc
  rw [if_pos rfl, if_neg (by decide)]
  exact ⟨(Nat.mul_div_cancel' (Nat.gcd_dvd_left x y)).symm, (Nat.mul_div_cancel' (Nat.gcd_dvd_right x y)).symm⟩
theorem frc_le {x y : Nat} (w : Int32) : frc x y w ≤ x + y := by
  unfold frc
  split
  · exact Nat.le_trans (Nat.div_le_self _ _) (by omega)
  · exact Nat.le_trans (Nat.div_le_self _ _) (by omega)
theorem frc_cmp {x y x' y' : Nat} (h : 1 ≤ y) (h' : 1 ≤ y') : x * y' ≤ x' * y ↔ frc x y 0 * frc x' y' 1 ≤ frc x' y' 0 * frc x y 1 := by
  obtain ⟨e1, e2⟩ := frc_at (x := x) (y := y)
  obtain ⟨e3, e4⟩ := frc_at (x := x') (y := y')
  have d1 : 0 < Nat.gcd x y := Nat.gcd_pos_of_pos_right _ h
  have d2 : 0 < Nat.gcd x' y' := Nat.gcd_pos_of_pos_right _ h'
  generalize Nat.gcd x y = d at *
  generalize Nat.gcd x' y' = d' at *
  generalize frc x y 0 = a at *
  generalize frc x y 1 = b at *
  generalize frc x' y' 0 = a' at *
  generalize frc x' y' 1 = b' at *
  have k1 : x * y' = (d * d') * (a * b') := by rw [e1, e4]; grind
  have k2 : x' * y = (d * d') * (a' * b) := by rw [e2, e3]; grind
  rw [k1, k2]
  exact ⟨fun z => Nat.le_of_mul_le_mul_left z (Nat.mul_pos d1 d2), fun z => Nat.mul_le_mul_left _ z⟩
theorem s_on (h : II C M) (x : Int32) : ∃ (r : Int64) (C' M' : Zs), (f6_on C x = some r ∧ C' = C) ∧ (f7_on x M = some (r, M')) ∧ II C' M' := by
  have h2 := II_t0 h
  unfold f7_on f6_on
  rw [ltt]
  generalize zI M 0 0 0 = M2 at h2 ⊢
  rcases h2.2.2.1 with v | ⟨m, g, A, H, Sh, W, v⟩
  · obtain ⟨e1, e2⟩ := gN_land v x
    rw [e1, e2, if_pos rfl, if_pos rfl]
    exact ⟨_, C, M2, ⟨rfl, rfl⟩, rfl, h2⟩
  rcases gV_land v x with ⟨e1, e2⟩ | ⟨l, hl, rfl, e1, e2⟩
  · rw [e1, e2, if_pos rfl, if_pos rfl]
    exact ⟨_, C, M2, ⟨rfl, rfl⟩, rfl, h2⟩
  rw [e1, e2, if_neg i10, if_neg i10]
  rcases v.2.2.2.2.2.2 with ⟨z1, z2⟩ | ⟨z1, z2, -⟩
  · rw [z1, z2, if_pos rfl, if_pos rfl]
    exact ⟨_, C, M2, ⟨rfl, rfl⟩, rfl, h2⟩
  obtain ⟨M', R, a1, a2, a3, a4, a5, a6, a7⟩ := II_two h2 v
  obtain ⟨D, c37, g44, rW, mw, mk, ih⟩ := a3
  rcases ih with ⟨z3, -⟩ | ⟨-, -, A', H', W', D', c46, g53, rW', wa⟩
  · rw [z1] at z3; exact absurd z3 (by decide)
  have d1 := D.1
  have d2 := D.2.1
  rw [z1, z2, if_neg i10, if_neg i10, a1, bd1s]
  have key : ∀ n j x2 x3, j ≤ g → g - j < n → ∃ r, f6_on_33 C n (nI l) x2 x3 (nI j) = some r ∧ f7_on_39 n (nI l) x2 x3 (nI j) M' = some (r, M') := by
    intro n
    induction n with
    | zero => intro j x2 x3 _ hh; omega
    | succ n ih =>
      intro j x2 x3 hj hn
      rw [f6_on_33, f7_on_39]
      dsimp only
      rw [c37.2.1, mw.2.1]
      by_cases e : g ≤ j
      · rw [if_pos (nI_le e (by omega)), if_pos (nI_le e (by omega))]
        by_cases y1 : x2 = 0
        · rw [if_pos y1, if_pos y1]
          by_cases y2 : x3 = 0
          · rw [if_pos y2, if_pos y2]; exact ⟨_, rfl, rfl⟩
          · rw [if_neg y2, if_neg y2]; exact ⟨_, rfl, rfl⟩
        · rw [if_neg y1, if_neg y1]
          by_cases y2 : x3 = 0
          · rw [if_pos y2, if_pos y2]; exact ⟨_, rfl, rfl⟩
          · rw [if_neg y2, if_neg y2]; exact ⟨_, rfl, rfl⟩
      have hq : j < g := by omega
      have b1 := (g44 l hl).2
      have b2 := (g53 l hl).2
      have b3 := (a5 l (by omega)).2
      have k1 := lst_bd D g44 hq
      have k2 := lst_bd D' g53 hq
      have k3 := lst_bd D (fun l hl => a5 l (by omega)) hq
      have p1 := lst_pos D rW.1 hq
      have p2 := lst_pos D' rW'.1 hq
      have p3 := lst_pos D a6 hq
      have fe : ∀ w, frc (R l) (lst (m - 1) (fun k => R k * A k j)) w = frc (W l) (lst (m - 1) (fun k => W k * A k j)) w := fun w => frc_one (a7.1 l hl) p3 (rW.1 l hl) p1 (by rw [Nat.mul_comm, lst_rest D rW a7 hl, Nat.mul_comm]) w
      rw [if_neg (nI_ge hq (by omega)), if_neg (nI_ge hq (by omega)), if_pos (inb_nI (by omega) (by decide)), nI_clamp (show l < 2 ^ 31 by omega), p5_leastCost D' c46 g53 hq, bd1s, ltt, if_pos (inb_nI (by omega) (by decide)), p5_leastCost D c37 g44 hq, bd1s, ltt, (g44 l hl).1, (g53 l hl).1, lN_mul, lN_mul]
      rw [p7_priceE D mw a5 hq, bd1s, if_pos (inb_nI (by omega) (by decide)), (a5 l (by omega)).1, p7_partOf (by omega) (by omega) p3, bd1s, ix6, if_pos (inb_nI (by omega) (by decide)), nI_clamp (show 6 * l + j < 2 ^ 31 by omega), ltt, if_pos (inb_nI (by omega) (by decide)), if_pos (inb_nI (by omega) (by decide)), p7_partOf (by omega) (by omega) p3, bd1s, ltt, (wa l j hl hq).1, (wa l j hl hq).2, lN_mul, lN_mul, fe, fe]
      have m1 : W l * lst (m - 1) (fun k => W' k * A' k j) ≤ 10000000 * 200000000 := Nat.mul_le_mul b1 k2
      have m2 : W' l * lst (m - 1) (fun k => W k * A k j) ≤ 10000000 * 200000000 := Nat.mul_le_mul b2 k1
      have cm := frc_cmp (x := W l) (x' := W' l) p1 p2
      have cm' := frc_cmp (x := W' l) (x' := W l) p2 p1
      have f1 := frc_le (x := W l) (y := lst (m - 1) (fun k => W k * A k j)) 0
      have f2 := frc_le (x := W l) (y := lst (m - 1) (fun k => W k * A k j)) 1
      have f3 := frc_le (x := W' l) (y := lst (m - 1) (fun k => W' k * A' k j)) 0
      have f4 := frc_le (x := W' l) (y := lst (m - 1) (fun k => W' k * A' k j)) 1
      generalize lst (m - 1) (fun k => W k * A k j) = P at *
      generalize lst (m - 1) (fun k => W' k * A' k j) = P' at *
      have m3 : frc (W l) P 0 * frc (W' l) P' 1 ≤ 210000000 * 210000000 := Nat.mul_le_mul (by omega) (by omega)
      have m4 : frc (W' l) P' 0 * frc (W l) P 1 ≤ 210000000 * 210000000 := Nat.mul_le_mul (by omega) (by omega)
      have q1 : (lN (W l * P') ≤ lN (W' l * P)) ↔ (lN (frc (W l) P 0 * frc (W' l) P' 1) ≤ lN (frc (W' l) P' 0 * frc (W l) P 1)) := by
        rw [lNle (by omega) (by omega), lNle (by omega) (by omega)]
        exact cm
      have q2 : (lN (W' l * P) ≤ lN (W l * P')) ↔ (lN (frc (W' l) P' 0 * frc (W l) P 1) ≤ lN (frc (W l) P 0 * frc (W' l) P' 1)) := by
        rw [lNle (by omega) (by omega), lNle (by omega) (by omega)]
        exact cm'
      generalize lN (W l * P') = u1 at *
      generalize lN (W' l * P) = u2 at *
      generalize lN (frc (W l) P 0 * frc (W' l) P' 1) = u3 at *
      generalize lN (frc (W' l) P' 0 * frc (W l) P 1) = u4 at *
      have fin : ∀ t0, ∃ r, f6_on_118 C (f6_on_33 C n) (nI l) x3 (nI j) u1 u2 t0 = some r ∧ f7_on_131 (f7_on_39 n) (nI l) x3 (nI j) u3 u4 t0 M' = some (r, M') := by
        intro t0
        unfold f6_on_118 f7_on_131 f6_on_131 f7_on_144 f6_on_136 f7_on_149
        by_cases y2 : x3 = 0
        · rw [if_pos y2, if_pos y2]
          by_cases y3 : u2 ≤ u1
          · rw [if_pos y3, if_pos (q2.mp y3), ltt, ltt, show nI j + 1 = nI (j + 1) from nI_1 _]
            exact ih (j + 1) _ _ (by omega) (by omega)
          · rw [if_neg y3, if_neg (fun z => y3 (q2.mpr z)), ltt, ltt, show nI j + 1 = nI (j + 1) from nI_1 _]
            exact ih (j + 1) _ _ (by omega) (by omega)
        · rw [if_neg y2, if_neg y2, ltt, ltt, show nI j + 1 = nI (j + 1) from nI_1 _]
          exact ih (j + 1) _ _ (by omega) (by omega)
      unfold f6_on_113 f7_on_126
      by_cases y1 : x2 = 0
      · rw [if_pos y1, if_pos y1]
        by_cases y2 : u1 ≤ u2
        · rw [if_pos y2, if_pos (q1.mp y2)]
          exact fin 0
        · rw [if_neg y2, if_neg (fun z => y2 (q1.mpr z))]
          exact fin 1
      · rw [if_neg y1, if_neg y1]
        exact fin 1
  obtain ⟨r, r1, r2⟩ := key fuel0 0 0 0 (by omega) (by unfold fuel0; omega)
  exact ⟨r, C, M', ⟨r1, rfl⟩, r2, a2⟩
/-! learn -/
def upA (A : Nat → Nat → Nat) (l q v : Nat) : Nat → Nat → Nat := fun x y => if x = l ∧ y = q then v else A x y
theorem dat_up (D : dat m g A H Sh) {l q v : Nat} (h1 : 1 ≤ v) (h2 : v ≤ 20) : dat m g (upA A l q v) H Sh := by
  refine ⟨D.1, D.2.1, D.2.2.1, D.2.2.2.1, fun x y hx hy => ?_⟩
  unfold upA
  split
  · exact ⟨h1, h2⟩
  · exact D.2.2.2.2 x y hx hy
theorem cW_up {o : Nat} (c : cW S o m g A H Sh) {l q v : Nat} : cW (zI S (o + 4 + l) q (nI v)) o m g (upA A l q v) H Sh := by
  refine ⟨by rw [zI_1n _ _ _ (by omega)]; exact c.1, by rw [zI_1n _ _ _ (by omega)]; exact c.2.1, fun b hb => by rw [zI_1n _ _ _ (by omega)]; exact c.2.2.1 b hb, fun b hb => by rw [zI_1n _ _ _ (by omega)]; exact c.2.2.2.1 b hb, fun x y hx hy => ?_⟩
  unfold upA
  rw [zI_rd]
  by_cases e : x = l ∧ y = q
  · rw [if_pos e, if_pos ⟨by omega, e.2⟩]
  · rw [if_neg e, if_neg (fun z => e ⟨by omega, z.2⟩)]
    exact c.2.2.2.2 x y hx hy
theorem mW_up (D : dat m g A H Sh) (c : mW S m g A H Sh) {l q v : Nat} (hq : q < g) : mW (zI S 6 (6 * l + q) (nI v)) m g (upA A l q v) H Sh := by
  have d2 := D.2.1
  refine ⟨by rw [zI_1n _ _ _ (by decide)]; exact c.1, by rw [zI_1n _ _ _ (by decide)]; exact c.2.1, fun b hb => by rw [zI_1n _ _ _ (by decide)]; exact c.2.2.1 b hb, fun b hb => by rw [zI_1n _ _ _ (by decide)]; exact c.2.2.2.1 b hb, fun x y hx hy => ?_⟩
  unfold upA
  rw [zI_rd]
  by_cases e : x = l ∧ y = q
  · rw [if_pos e, if_pos ⟨rfl, by omega⟩]
  · rw [if_neg e, if_neg (fun z => e (by omega))]
    exact c.2.2.2.2 x y hx hy
theorem s_learn (h : II C M) (x1 x2 x3 : Int32) : ∃ (r : Int64) (C' M' : Zs), (f6_learn x1 x2 x3 C = some (r, C')) ∧ (f7_learn x1 x2 x3 M = some (r, M')) ∧ II C' M' := by
  have h2 := II_t0 h
  unfold f7_learn f6_learn
  rw [ltt]
  generalize zI M 0 0 0 = M2 at h2 ⊢
  rcases h2.2.2.1 with v | ⟨m, g, A, H, Sh, W, v⟩
  · obtain ⟨e1, e2⟩ := gN_land v x1
    rw [e1, e2, if_pos rfl, if_pos rfl]
    exact ⟨_, C, M2, rfl, rfl, h2⟩
  rcases gV_land v x1 with ⟨e1, e2⟩ | ⟨l, hl, rfl, e1, e2⟩
  · rw [e1, e2, if_pos rfl, if_pos rfl]
    exact ⟨_, C, M2, rfl, rfl, h2⟩
  rw [e1, e2, if_neg i10, if_neg i10]
  rcases gV_land v x2 with ⟨e1, e2⟩ | ⟨k, hk, rfl, e1, e2⟩
  · rw [e1, e2, if_pos rfl, if_pos rfl]
    exact ⟨_, C, M2, rfl, rfl, h2⟩
  rw [e1, e2, if_neg i10, if_neg i10]
  by_cases c1 : nI l = nI k
  · rw [if_pos c1, if_pos c1]
    exact ⟨_, C, M2, rfl, rfl, h2⟩
  rw [if_neg c1, if_neg c1]
  rcases gV_good v x3 with ⟨e1, e2⟩ | ⟨q, hq, rfl, e1, e2⟩
  · rw [e1, e2, if_pos rfl, if_pos rfl]
    exact ⟨_, C, M2, rfl, rfl, h2⟩
  obtain ⟨C1, M1, a1, a2, a3, a4, a5⟩ := II_keep h2 v
  rw [e1, e2, if_neg i10, if_neg i10, a1, a2, bd1s, bd1s]
  have a4' := a4
  obtain ⟨D, c37, g44, rW, mw, mk, ih⟩ := a4'
  have d1 := D.1
  have d2 := D.2.1
  have bl := D.2.2.2.2 l q hl hq
  have bk := D.2.2.2.2 k q hk hq
  rw [ix6, ix6, if_pos (inb_nI (by omega) (by decide)), if_pos (inb_nI (by omega) (by decide)), if_pos (inb_nI (by omega) (by decide)), if_pos (inb_nI (by omega) (by decide)), if_pos (inb_nI (by omega) (by decide)), if_pos (inb_nI (by omega) (by decide)), nI_clamp (show l < 2 ^ 31 by omega), nI_clamp (show k < 2 ^ 31 by omega), nI_clamp (show q < 2 ^ 31 by omega), nI_clamp (show 6 * l + q < 2 ^ 31 by omega), nI_clamp (show 6 * k + q < 2 ^ 31 by omega), c37.2.2.2.2 l q hl hq, c37.2.2.2.2 k q hk hq, mw.2.2.2.2 l q hl hq, mw.2.2.2.2 k q hk hq, ltt, ltt, ltt]
  have st := pk_sub_toInt (a := A l q) (b := A k q) (by omega) (by omega)
  have z0 := z32
  have m78 : ∀ f, f ≤ A l q → f7_learn_78 (nI l) (nI q) (nI f) M1 = some ((nI f).toInt64, zI (zI M1 6 (6 * l + q) (nI (A l q - f))) 0 29 0) := by
    intro f hf
    unfold f7_learn_78
    rw [ix6, if_pos (inb_nI (by omega) (by decide)), if_pos (inb_nI (by omega) (by decide)), nI_clamp (show 6 * l + q < 2 ^ 31 by omega), ltt, ltt, mw.2.2.2.2 l q hl hq, pk_sub hf]
  by_cases cc : A k q < A l q
  · rw [if_pos (show 0 < nI (A l q) - nI (A k q) by rw [Int32.lt_iff_toInt_lt]; omega), if_pos (show 0 ≤ nI (A l q) - nI (A k q) by rw [Int32.le_iff_toInt_le]; omega), if_pos (inb_nI (by omega) (by decide)), if_pos (inb_nI (by omega) (by decide)), if_pos (inb_nI (by omega) (by decide)), if_pos (inb_nI (by omega) (by decide)), pk_sub (by omega), m78 _ (by omega)]
    have e3 : A l q - (A l q - A k q) = A k q := by omega
    rw [e3]
    have D' := dat_up D (l := l) (q := q) bk.1 bk.2
    obtain ⟨C2, W', s1, s2, s3, s4⟩ := p1_settle (o := 37) (by omega) D' (cW_up (l := l) (q := q) (v := A k q) c37)
    rw [s1, bd1s]
    have cc0 : ∀ a, (a < 18 ∨ 32 ≤ a) → a ≠ 44 → a ≠ 45 → a ≠ 37 + 4 + l → C2.1 a = C1.1 a := fun a x1 x2 x3 x4 => by rw [(s2 a x1 x2 x3).1, zI_1n _ _ _ x4]
    have mw' := mW_up (l := l) (v := A k q) D mw hq
    have iv : iV C2 (zI (zI M1 6 (6 * l + q) (nI (A k q))) 0 29 0) m g (upA A l q (A k q)) H Sh W' := by
      refine ⟨D', cW_frm (by omega) d1.2 (cW_up c37) s2, s3, s4, mW_fr2 mw' (by rw [zI_rd, if_neg (by decide)]) (by rw [zI_rd, if_neg (by decide)]) (fun a x1 x2 => zI_1n _ _ _ (by omega)), Or.inl (by rw [zI_rd, if_pos ⟨rfl, rfl⟩]), ?_⟩
      refine iH_fr ih ?_ ⟨fun a x1 x2 => cc0 a (by omega) (by omega) (by omega) (by omega), by rw [(s2 53 (by omega) (by omega) (by omega)).2]; rfl⟩ ?_ rfl rfl
      · rw [cc0 0 (by omega) (by omega) (by omega) (by omega)]
      · rw [zI_rd, if_neg (by decide), zI_1n _ _ _ (by decide)]
    refine ⟨_, _, _, rfl, rfl, II_world a3 (Or.inr ⟨m, g, _, H, Sh, W', iv⟩) (fun a x1 x2 => cc0 a (by omega) (by omega) (by omega) (by omega)) (by rw [cc0 0 (by omega) (by omega) (by omega) (by omega)]) (fun b hb => by rw [zI_rd, if_neg (by omega), zI_1n _ _ _ (by decide)]) (fun a ha => by rw [zI_1n _ _ _ (by omega), zI_1n _ _ _ (by omega)])⟩
  · rw [if_neg (show ¬ 0 < nI (A l q) - nI (A k q) by rw [Int32.lt_iff_toInt_lt]; omega)]
    have e4 : (if 0 ≤ nI (A l q) - nI (A k q) then f7_learn_78 (nI l) (nI q) (nI (A l q) - nI (A k q)) M1 else f7_learn_78 (nI l) (nI q) (0 : Int32) M1) = some ((0 : Int64), zI (zI M1 6 (6 * l + q) (nI (A l q))) 0 29 0) := by
      by_cases c2 : A l q = A k q
      · rw [if_pos (show 0 ≤ nI (A l q) - nI (A k q) by rw [Int32.le_iff_toInt_le]; omega), pk_sub (by omega), m78 _ (by omega), show A l q - A k q = 0 by omega]
        rfl
      · rw [if_neg (show ¬ 0 ≤ nI (A l q) - nI (A k q) by rw [Int32.le_iff_toInt_le]; omega), show (0 : Int32) = nI 0 from rfl, m78 _ (by omega)]
        rfl
    rw [e4]
    have e5 : upA A l q (A l q) = A := by
      funext x y
      unfold upA
      split
      · rename_i e; rw [e.1, e.2]
      · rfl
    have mw' := mW_up (l := l) (v := A l q) D mw hq
    rw [e5] at mw'
    have iv : iV C1 (zI (zI M1 6 (6 * l + q) (nI (A l q))) 0 29 0) m g A H Sh W := by
      refine ⟨D, c37, g44, rW, mW_fr2 mw' (by rw [zI_rd, if_neg (by decide)]) (by rw [zI_rd, if_neg (by decide)]) (fun a x1 x2 => zI_1n _ _ _ (by omega)), Or.inl (by rw [zI_rd, if_pos ⟨rfl, rfl⟩]), iH_fr ih rfl sameW.rf ?_ rfl rfl⟩
      rw [zI_rd, if_neg (by decide), zI_1n _ _ _ (by decide)]
    refine ⟨_, _, _, rfl, rfl, II_world a3 (Or.inr ⟨m, g, _, H, Sh, W, iv⟩) (fun _ _ _ => rfl) rfl (fun b hb => by rw [zI_rd, if_neg (by omega), zI_1n _ _ _ (by decide)]) (fun a ha => by rw [zI_1n _ _ _ (by omega), zI_1n _ _ _ (by omega)])⟩
end TK
