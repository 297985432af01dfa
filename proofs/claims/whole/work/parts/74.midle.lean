/-! idleOf by sets, isRest -/
def subs (u t : Nat) : Prop := u &&& t = u
def okS (m g : Nat) (A : Nat → Nat → Nat) (H Sh W : Nat → Nat) (t u : Nat) : Prop := incN m H W u * ns g Sh ≤ incN m H W t * gtsN g (mkT m A W t) Sh u
def idleS (m g : Nat) (A : Nat → Nat → Nat) (H Sh W : Nat → Nat) (t r : Nat) : Prop := (r = 0 ∧ ∀ u, 1 ≤ u → u ≤ t → subs u t → okS m g A H Sh W t u) ∨ (1 ≤ r ∧ r ≤ t ∧ subs r t ∧ ¬ okS m g A H Sh W t r ∧ ∀ u, 1 ≤ u → u < r → subs u t → okS m g A H Sh W t u)
theorem sub_at : ∀ u, u < 8 → ∀ t, t < 8 → ((nI u &&& (nI t ^^^ (-1 : Int32)) = 0) ↔ u &&& t = u) := by decide +kernel
section M2
variable {S : Zs} {m g : Nat} {A : Nat → Nat → Nat} {H Sh W : Nat → Nat}
theorem mW_but {S' : Zs} (C : mW S m g A H Sh) (h : but S S' 12) : mW S' m g A H Sh :=
  ⟨by rw [h.2 _ _ (by decide)]; exact C.1, by rw [h.2 _ _ (by decide)]; exact C.2.1, fun q hq => by rw [h.2 _ _ (by decide)]; exact C.2.2.1 q hq, fun l hl => by rw [h.2 _ _ (by decide)]; exact C.2.2.2.1 l hl, fun l q hl hq => by rw [h.2 _ _ (by decide)]; exact C.2.2.2.2 l q hl hq⟩
theorem p7_gets (D : dat m g A H Sh) (C : mW S m g A H Sh) (G : cG S 11 m W) {t u : Nat} (ht : t < 8) (hu : u < 8) (hb : ∀ q, q < g → S.1 12 q = nI (mkT m A W t q)) (k41 : Int32 → Int64 → Int32 → Zs → Option (Int32 × Zs)) : (okS m g A H Sh W t u → f7_idleOf_62 k41 fuel0 (nI t) (lN (incN m H W t)) (nI u) 0 0 S = k41 (nI t) (lN (incN m H W t)) (nI (u + 1)) S) ∧ (¬ okS m g A H Sh W t u → f7_idleOf_62 k41 fuel0 (nI t) (lN (incN m H W t)) (nI u) 0 0 S = some (nI u, S)) := by
  have d1 := D.1
  have d2 := D.2.1
  have key : ∀ n j, j ≤ g → g - j < n → (okS m g A H Sh W t u → f7_idleOf_62 k41 n (nI t) (lN (incN m H W t)) (nI u) (nI (ns j (fun q => if mkT m A W t q &&& u = 0 then 0 else Sh q))) (nI j) S = k41 (nI t) (lN (incN m H W t)) (nI (u + 1)) S) ∧ (¬ okS m g A H Sh W t u → f7_idleOf_62 k41 n (nI t) (lN (incN m H W t)) (nI u) (nI (ns j (fun q => if mkT m A W t q &&& u = 0 then 0 else Sh q))) (nI j) S = some (nI u, S)) := by
    intro n
    induction n with
    | zero => intro j _ h; omega
    | succ n ih =>
      intro j hj hn
      rw [f7_idleOf_62]
      dsimp only
      rw [C.2.1]
      by_cases e : g ≤ j
      · have b1 := incN_le (t := u) D G
        have b2 := incN_le (t := t) D G
        have b3 := ns_sh D
        have b4 := gtsN_le (b := mkT m A W t) (t := u) D
        have m1 : incN m H W u * ns g Sh ≤ 3000000000 * 120 := Nat.mul_le_mul b1 b3
        have m2 : incN m H W t * gtsN g (mkT m A W t) Sh u ≤ 3000000000 * 120 := Nat.mul_le_mul b2 b4
        have eg : ns j (fun q => if mkT m A W t q &&& u = 0 then 0 else Sh q) = gtsN g (mkT m A W t) Sh u := by rw [show j = g by omega]; rfl
        rw [if_pos (nI_le e (by omega)), p7_incomeOf D C G hu, bd1s, p7_allShares D C, bd1s, eg, nI_l (by omega), nI_l (by omega), lN_mul, lN_mul]
        constructor
        · intro h
          rw [if_pos ((pk_lLE (by omega) (by omega)).mpr h)]
          unfold f7_idleOf_130
          rw [ltt, show nI u + 1 = nI (u + 1) from nI_1 _]
        · intro h
          rw [if_neg (fun k => h ((pk_lLE (by omega) (by omega)).mp k))]
      · have ih' := ih (j + 1) (by omega) (by omega)
        have e1 : ns (j + 1) (fun q => if mkT m A W t q &&& u = 0 then 0 else Sh q) = ns j (fun q => if mkT m A W t q &&& u = 0 then 0 else Sh q) + (if mkT m A W t j &&& u = 0 then 0 else Sh j) := rfl
        rw [e1] at ih'
        rw [if_neg (nI_ge (by omega) (by omega)), if_pos (inb_nI (by omega) (by decide)), nI_clamp (show j < 2 ^ 31 by omega), hb j (by omega)]
        unfold f7_idleOf_97
        by_cases c : mkT m A W t j &&& u = 0
        · rw [if_pos c] at ih'
          rw [if_pos ((bt_and _ (mkT_lt (by omega)) u hu).mpr c), ltt, ltt, show (0 : Int32) = nI 0 from rfl, nI_add, show nI j + 1 = nI (j + 1) from nI_1 _]
          exact ih'
        · rw [if_neg c] at ih'
          rw [if_neg (fun k => c ((bt_and _ (mkT_lt (by omega)) u hu).mp k)), if_pos (inb_nI (by omega) (by decide)), ltt, ltt, C.2.2.1 j (by omega), nI_add, show nI j + 1 = nI (j + 1) from nI_1 _]
          exact ih'
  exact key fuel0 0 (by omega) (by unfold fuel0; omega)
theorem p7_srch (D : dat m g A H Sh) (C : mW S m g A H Sh) (G : cG S 11 m W) {t : Nat} (ht : t < 8) (hb : ∀ q, q < g → S.1 12 q = nI (mkT m A W t q)) : ∀ n u, 1 ≤ u → u ≤ t + 1 → t + 1 - u < n → (∀ v, 1 ≤ v → v < u → subs v t → okS m g A H Sh W t v) → ∃ r, idleS m g A H Sh W t r ∧ f7_idleOf_41 n (nI t) (lN (incN m H W t)) (nI u) S = some (nI r, S) := by
  intro n
  induction n with
  | zero => intro u _ _ h; omega
  | succ n ih =>
    intro u u1 u2 hn hv
    rw [f7_idleOf_41]
    dsimp only
    by_cases e : t < u
    · rw [if_pos (nI_lt e (by omega))]
      exact ⟨0, Or.inl ⟨rfl, fun v h1 h2 h3 => hv v h1 (by omega) h3⟩, rfl⟩
    · rw [if_neg (nI_nlt (by omega) (by omega))]
      by_cases c : u &&& t = u
      · rw [if_pos ((sub_at u (by omega) t ht).mpr c)]
        obtain ⟨k1, k2⟩ := p7_gets D C G ht (show u < 8 by omega) hb (f7_idleOf_41 n)
        by_cases ok : okS m g A H Sh W t u
        · rw [k1 ok]
          refine ih (u + 1) (by omega) (by omega) (by omega) (fun v h1 h2 h3 => ?_)
          by_cases x : v = u
          · rw [x]; exact ok
          · exact hv v h1 (by omega) h3
        · rw [k2 ok]
          exact ⟨u, Or.inr ⟨u1, by omega, c, ok, hv⟩, rfl⟩
      · rw [if_neg (fun k => c ((sub_at u (by omega) t ht).mp k))]
        unfold f7_idleOf_130
        rw [ltt, show nI u + 1 = nI (u + 1) from nI_1 _]
        refine ih (u + 1) (by omega) (by omega) (by omega) (fun v h1 h2 h3 => ?_)
        by_cases x : v = u
        · rw [x] at h3; exact absurd h3 c
        · exact hv v h1 (by omega) h3
theorem p7_idleOf (D : dat m g A H Sh) (C : mW S m g A H Sh) (G : cG S 11 m W) {t : Nat} (ht : t < 8) : ∃ r S', idleS m g A H Sh W t r ∧ f7_idleOf (nI t) S = some (nI r, S') ∧ but S S' 12 := by
  have d1 := D.1
  have d2 := D.2.1
  have key : ∀ n j (S1 : Zs), j ≤ g → g - j < n → but S S1 12 → (∀ q, q < j → S1.1 12 q = nI (mkT m A W t q)) → ∃ r S', idleS m g A H Sh W t r ∧ f7_idleOf_9 n (nI t) (lN (incN m H W t)) (nI j) S1 = some (nI r, S') ∧ but S S' 12 := by
    intro n
    induction n with
    | zero => intro j S1 _ h; omega
    | succ n ih =>
      intro j S1 hj h hB hb
      have C1 : mW S1 m g A H Sh := mW_but C hB
      have G1 : cG S1 11 m W := cG_but G hB
      rw [f7_idleOf_9]
      dsimp only
      rw [C1.2.1]
      by_cases e : g ≤ j
      · rw [if_pos (nI_le e (by omega))]
        obtain ⟨r, hr, he⟩ := p7_srch D C1 G1 ht (fun q hq => hb q (by omega)) fuel0 1 (Nat.le_refl _) (by omega) (by unfold fuel0; omega) (fun v h1 h2 => by omega)
        exact ⟨r, S1, hr, he, hB⟩
      · rw [if_neg (nI_ge (by omega) (by omega)), p7_makersOf D C1 G1 ht (by omega), bd1s, if_pos (inb_nI (by omega) (by decide)), ltt, ltt, nI_clamp (by omega), show nI j + 1 = nI (j + 1) from nI_1 _]
        refine ih (j + 1) _ (by omega) (by omega) (hB.tr but.put) (fun q hq => ?_)
        rw [zI_rd]
        by_cases e2 : q = j
        · rw [if_pos ⟨rfl, e2⟩, e2]
        · rw [if_neg (fun k => e2 k.2)]
          exact hb q (by omega)
  unfold f7_idleOf
  rw [p7_incomeOf D C G ht, bd1s]
  exact key fuel0 0 S (by omega) (by unfold fuel0; omega) but.rf (fun q h => by omega)
/-- what a search for rest may change -/
def mfr (S S' : Zs) : Prop := (∀ a, a ≠ 12 → S'.1 a = S.1 a) ∧ ∀ a, a ≠ 11 → a ≠ 13 → S'.2 a = S.2 a
theorem mfr.rf {S : Zs} : mfr S S := ⟨fun _ _ => rfl, fun _ _ _ => rfl⟩
theorem mfr.tr {S S' S'' : Zs} (h : mfr S S') (h' : mfr S' S'') : mfr S S'' := ⟨fun a e => (h'.1 a e).trans (h.1 a e), fun a e1 e2 => (h'.2 a e1 e2).trans (h.2 a e1 e2)⟩
theorem mfr.L {S : Zs} {k j : Nat} {v : Int64} (h : k = 11 ∨ k = 13) : mfr S (zL S k j v) := ⟨fun _ _ => rfl, fun a e1 e2 => zL_2n S j v (by omega)⟩
theorem mfr.B {S S' : Zs} (h : but S S' 12) : mfr S S' := ⟨fun a e => funext fun b => h.2 a b e, fun a _ _ => by rw [h.1]⟩
theorem mW_fr {S' : Zs} (C : mW S m g A H Sh) (h : mfr S S') : mW S' m g A H Sh :=
  ⟨by rw [h.1 _ (by decide)]; exact C.1, by rw [h.1 _ (by decide)]; exact C.2.1, fun q hq => by rw [h.1 _ (by decide)]; exact C.2.2.1 q hq, fun l hl => by rw [h.1 _ (by decide)]; exact C.2.2.2.1 l hl, fun l q hl hq => by rw [h.1 _ (by decide)]; exact C.2.2.2.2 l q hl hq⟩
/-- a row of wages that the reference takes for a rest of t -/
def gd (m g : Nat) (A : Nat → Nat → Nat) (H Sh : Nat → Nat) (t : Nat) (R : Nat → Nat) : Prop := (∀ l, l < 3 → 1 ≤ R l) ∧ ∀ u, 1 ≤ u → u ≤ t → subs u t → okS m g A H Sh R t u
theorem lN_n0 {x : Nat} (h : x < 2 ^ 63) : (lN x ≤ (0 : Int64)) ↔ x = 0 := by
  rw [show (0 : Int64) = lN 0 from rfl, pk_lLE h (by decide)]
  omega
theorem p7_isRest (D : dat m g A H Sh) (C : mW S m g A H Sh) {t : Nat} (ht : t < 8) {R : Nat → Nat} (hR : ∀ l, l < 3 → R l ≤ 10000000) : ∃ r S', f7_isRest (nI t) (lN (R 0)) (lN (R 1)) (lN (R 2)) S = some (r, S') ∧ mfr S S' ∧ S'.2 13 = S.2 13 ∧ cG S' 11 3 R ∧ ((r = 1 ∧ gd m g A H Sh t R) ∨ (r = 0 ∧ ¬ gd m g A H Sh t R)) := by
  have d1 := D.1
  have r0 := hR 0 (by omega)
  have r1 := hR 1 (by omega)
  have r2 := hR 2 (by omega)
  have f3 : mfr S (zL (zL (zL S 11 0 (lN (R 0))) 11 1 (lN (R 1))) 11 2 (lN (R 2))) := ((mfr.L (Or.inl rfl)).tr (mfr.L (Or.inl rfl))).tr (mfr.L (Or.inl rfl))
  have e13 : (zL (zL (zL S 11 0 (lN (R 0))) 11 1 (lN (R 1))) 11 2 (lN (R 2))).2 13 = S.2 13 := by rw [zL_2n _ _ _ (by decide), zL_2n _ _ _ (by decide), zL_2n _ _ _ (by decide)]
  have G3 : cG (zL (zL (zL S 11 0 (lN (R 0))) 11 1 (lN (R 1))) 11 2 (lN (R 2))) 11 3 R := by
    intro l hl
    refine ⟨?_, hR l hl⟩
    rw [zL_rd, zL_rd, zL_rd]
    rcases (show l = 0 ∨ l = 1 ∨ l = 2 by omega) with rfl | rfl | rfl
    · rw [if_neg (fun q => by omega), if_neg (fun q => by omega), if_pos ⟨rfl, rfl⟩]
    · rw [if_neg (fun q => by omega), if_pos ⟨rfl, rfl⟩]
    · rw [if_pos ⟨rfl, rfl⟩]
  unfold f7_isRest
  rw [if_pos (by decide), ltt, if_pos (by decide), ltt, if_pos (by decide), ltt, show (0 : Int32).toNatClampNeg = 0 by decide, show (1 : Int32).toNatClampNeg = 1 by decide, show (2 : Int32).toNatClampNeg = 2 by decide]
  by_cases z0 : R 0 = 0
  · rw [if_pos ((lN_n0 (by omega)).mpr z0)]
    exact ⟨_, _, rfl, f3, e13, G3, Or.inr ⟨rfl, fun h => by have := h.1 0 (by omega); omega⟩⟩
  rw [if_neg (fun k => z0 ((lN_n0 (by omega)).mp k))]
  by_cases z1 : R 1 = 0
  · rw [if_pos ((lN_n0 (by omega)).mpr z1)]
    exact ⟨_, _, rfl, f3, e13, G3, Or.inr ⟨rfl, fun h => by have := h.1 1 (by omega); omega⟩⟩
  rw [if_neg (fun k => z1 ((lN_n0 (by omega)).mp k))]
  by_cases z2 : R 2 = 0
  · rw [if_pos ((lN_n0 (by omega)).mpr z2)]
    exact ⟨_, _, rfl, f3, e13, G3, Or.inr ⟨rfl, fun h => by have := h.1 2 (by omega); omega⟩⟩
  rw [if_neg (fun k => z2 ((lN_n0 (by omega)).mp k))]
  have Gm : cG (zL (zL (zL S 11 0 (lN (R 0))) 11 1 (lN (R 1))) 11 2 (lN (R 2))) 11 m R := fun l hl => G3 l (by omega)
  obtain ⟨r, S4, i1, i2, i3⟩ := p7_idleOf D (mW_fr C f3) Gm ht
  rw [i2, bd2s]
  have f4 := f3.tr (mfr.B i3)
  have e4 : S4.2 13 = S.2 13 := by rw [i3.1]; exact e13
  have pos : ∀ l, l < 3 → 1 ≤ R l := fun l hl => by rcases (show l = 0 ∨ l = 1 ∨ l = 2 by omega) with rfl | rfl | rfl <;> omega
  by_cases c : r = 0
  · rw [c, if_pos nI_0]
    rw [c] at i1
    refine ⟨_, _, rfl, f4, e4, cG_but G3 i3, Or.inl ⟨rfl, pos, ?_⟩⟩
    rcases i1 with h | h
    · exact h.2
    · omega
  · rcases i1 with h | ⟨h1, h2, h3, h4, h5⟩
    · exact absurd h.1 c
    · rw [if_neg (nI_ne0 h1 (by omega))]
      exact ⟨_, _, rfl, f4, e4, cG_but G3 i3, Or.inr ⟨rfl, fun k => h4 (k.2 r h1 h2 h3)⟩⟩
/-- the row at 13 -/
theorem p7_isRow (D : dat m g A H Sh) (C : mW S m g A H Sh) {t : Nat} (ht : t < 8) {R : Nat → Nat} (hR : ∀ l, l < 3 → S.2 13 l = lN (R l) ∧ R l ≤ 10000000) : ∃ r S', f7_isRowAtRest (nI t) S = some (r, S') ∧ mfr S S' ∧ S'.2 13 = S.2 13 ∧ cG S' 11 3 R ∧ ((r = 1 ∧ gd m g A H Sh t R) ∨ (r = 0 ∧ ¬ gd m g A H Sh t R)) := by
  obtain ⟨r, S', h1, h2⟩ := p7_isRest D C ht (fun l hl => (hR l hl).2)
  refine ⟨r, S', ?_, h2⟩
  unfold f7_isRowAtRest
  rw [if_pos (by decide), if_pos (by decide), if_pos (by decide), show (0 : Int32).toNatClampNeg = 0 by decide, show (1 : Int32).toNatClampNeg = 1 by decide, show (2 : Int32).toNatClampNeg = 2 by decide, (hR 0 (by omega)).1, (hR 1 (by omega)).1, (hR 2 (by omega)).1, h1, bd2s]
end M2
