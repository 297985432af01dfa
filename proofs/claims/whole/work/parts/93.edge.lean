/-! edge, move -/
theorem iLle {α : Type} {a b : Nat} (ha : a < 2 ^ 63) (hb : b < 2 ^ 63) (x y : α) : (if lN a ≤ lN b then x else y) = if a ≤ b then x else y := by
  by_cases c : a ≤ b
  · rw [if_pos c, if_pos ((pk_lLE ha hb).mpr c)]
  · rw [if_neg c, if_neg (fun k => c ((pk_lLE ha hb).mp k))]
theorem iLlt {α : Type} {a b : Nat} (ha : a < 2 ^ 63) (hb : b < 2 ^ 63) (x y : α) : (if lN a < lN b then x else y) = if a < b then x else y := by
  by_cases c : a < b
  · rw [if_pos c, if_pos ((pk_lLT ha hb).mpr c)]
  · rw [if_neg c, if_neg (fun k => c ((pk_lLT ha hb).mp k))]
theorem iNle {α : Type} {a b : Nat} (ha : a < 2 ^ 31) (hb : b < 2 ^ 31) (x y : α) : (if nI a ≤ nI b then x else y) = if a ≤ b then x else y := by
  by_cases c : a ≤ b
  · rw [if_pos c, if_pos ((nI_leI ha hb).mpr c)]
  · rw [if_neg c, if_neg (fun k => c ((nI_leI ha hb).mp k))]
theorem iNlt {α : Type} {a b : Nat} (ha : a < 2 ^ 31) (hb : b < 2 ^ 31) (x y : α) : (if nI a < nI b then x else y) = if a < b then x else y := by
  by_cases c : a < b
  · rw [if_pos c, if_pos ((nI_ltI ha hb).mpr c)]
  · rw [if_neg c, if_neg (fun k => c ((nI_ltI ha hb).mp k))]
theorem iNeq {α : Type} {a b : Nat} (ha : a < 2 ^ 31) (hb : b < 2 ^ 31) (x y : α) : (if nI a = nI b then x else y) = if a = b then x else y := by
  by_cases c : a = b
  · rw [if_pos c, if_pos ((nI_eq ha hb).mpr c)]
  · rw [if_neg c, if_neg (fun k => c ((nI_eq ha hb).mp k))]
section ED
variable {C M C' M' S S' : Zs} {m g : Nat} {A : Nat → Nat → Nat} {H Sh W : Nat → Nat}
theorem iV_cm (v : iV C M m g A H Sh W) (k : cst C C') (k' : mst M M') : iV C' M' m g A H Sh W :=
  iV_fr v (by rw [k.1 0 (by omega)]) ⟨fun a x1 x2 => k.1 a (by omega), k.2.2⟩ ⟨fun a x1 x2 => k.1 a (by omega), k.2.1⟩ (fun b x1 x2 => k'.1 b (by omega)) (fun a x1 x2 => k'.2.1 a (by omega) (by omega)) (fun a x1 x2 => k'.2.2 a (by omega) (by omega) (by omega))
theorem tk55 (t : tkn S S' 55 37) : cst S S' := ⟨fun a e => t.2.1 a (by omega), t.2.2 44 (by decide), t.2.2 53 (by decide)⟩
theorem frm55 (t : frm S S' 55) : cst S S' := ⟨fun a e => (t a (by omega) (by omega) (by omega)).1, (t 44 (by omega) (by omega) (by omega)).2, (t 53 (by omega) (by omega) (by omega)).2⟩
theorem cst.z {k j : Nat} {v : Int32} (hk : 55 ≤ k) : cst S (zI S k j v) := ⟨fun a e => zI_1n _ _ _ (by omega), rfl, rfl⟩
theorem edge_one (v : iV C M m g A H Sh W) {l q : Nat} (hl : l < m) (hq : q < g) (y x : Int32) (ex : nI (A l q) + y = x) : ∃ r C' M', f6_makersChange (nI l) (nI q) y C = some (r, C') ∧ f7_isOther (nI l) (nI q) x (nI (mkrs m A W q)) M = some (r, M') ∧ cst C C' ∧ mst M M' := by
  obtain ⟨D, c37, g44, rW, mw, mk, ih⟩ := v
  have d1 := D.1
  have d2 := D.2.1
  unfold f6_makersChange f7_isOther
  rw [if_pos (inb_nI (by omega) (by decide)), if_pos (inb_nI (by omega) (by decide)), nI_clamp (show l < 2 ^ 31 by omega), nI_clamp (show q < 2 ^ 31 by omega), c37.2.2.2.2 l q hl hq, ltt, ex, show (1 : Int64) = (1 : Int32).toInt64 from rfl, show (20 : Int64) = (20 : Int32).toInt64 from rfl, inI]
  by_cases c1 : x < 1
  · rw [if_pos c1, if_pos c1, if_pos rfl]
    exact ⟨0, C, M, rfl, rfl, cst.rf, mst.rf⟩
  rw [if_neg c1, if_neg c1]
  by_cases c2 : 20 < x
  · rw [if_pos c2, if_pos rfl, if_neg (fun k => (i32lt _ _).mpr c2 k)]
    exact ⟨0, C, M, rfl, rfl, cst.rf, mst.rf⟩
  have c2' : x ≤ 20 := (i32le _ _).mp c2
  have c0 : ¬ x < 0 := by
    rw [Int32.lt_iff_toInt_lt] at c1 ⊢
    have e1 : (0 : Int32).toInt = 0 := rfl
    have e2 : (1 : Int32).toInt = 1 := rfl
    omega
  obtain ⟨w, hw, rfl⟩ := i32_01 c0 (n := 20) (by decide) c2'
  have hw1 : 1 ≤ w := by
    by_cases z : w = 0
    · subst z; exact absurd (by decide) c1
    · omega
  obtain ⟨C1, t1, t2⟩ := p5_take (o := 55) (q := 37) (by omega) C
  rw [if_neg c2, if_neg i10, if_pos c2', t1, bd1s, if_pos (inb_nI (by omega) (by decide)), if_pos (inb_nI (by omega) (by decide)), ltt]
  have D' := dat_up D (l := l) (q := q) hw1 hw
  obtain ⟨C2, W', s1, s2, s3, s4⟩ := p1_settle (o := 55) (by omega) D' (cW_up (l := l) (q := q) (v := w) (cW_tk D c37 t2))
  have k1 : cst C C2 := (tk55 t2).tr ((cst.z (by omega)).tr (frm55 s2))
  have c55 : cW C2 55 m g (upA A l q w) H Sh := cW_frm (by omega) d1.2 (cW_up (cW_tk D c37 t2)) s2
  have c37' : cW C2 37 m g A H Sh := cW_same c37 d1.2 ⟨fun a x1 x2 => k1.1 a (by omega), k1.2.1⟩
  have g44' : cG C2 44 m W := cG_same (o := 37) g44 ⟨fun a x1 x2 => k1.1 a (by omega), k1.2.1⟩
  rw [s1, bd1s, p5_makersBy D' c55 s3 hq, bd1s, p5_makersBy D c37' g44' hq, bd1s, ix6, if_pos (inb_nI (by omega) (by decide)), nI_clamp (show 6 * l + q < 2 ^ 31 by omega), ltt, if_pos (inb_nI (by omega) (by decide)), ltt]
  have mw' := mW_up (l := l) (v := w) D mw hq
  obtain ⟨M1, R, r1, r2, r3, r4, r5⟩ := p7_restE D' mw' s4
  have mw1 : mW M1 m g (upA A l q w) H Sh := mW_fr mw' r2
  rw [r1, bd1s, p7_makersE D' mw1 r3 hq, bd1s, ← mkrs_rest D' s4 r5]
  have km : mst M (zI M1 6 (6 * l + q) (M.1 6 (6 * l + q))) := by
    refine ⟨fun b e => ?_, fun a e1 e2 => ?_, fun a e1 e2 e3 => ?_⟩
    · rw [zI_1n _ _ _ (by decide), r2.1 0 (by decide), zI_1n _ _ _ (by decide)]
    · by_cases ca : a = 6
      · subst ca
        funext b
        rw [zI_rd, r2.1 6 (by decide), zI_rd]
        by_cases cb : b = 6 * l + q
        · rw [if_pos ⟨rfl, cb⟩, cb]
        · rw [if_neg (fun z => cb z.2), if_neg (fun z => cb z.2)]
      · rw [zI_1n _ _ _ ca, r2.1 a e2, zI_1n _ _ _ ca]
    · exact r2.2 a e2 e3
  have fin : ∀ t, (t = 0 ∨ t = 1) → f7_isOther_66 (nI l) (nI q) (M.1 6 (6 * l + q)) t M1 = some (t, zI M1 6 (6 * l + q) (M.1 6 (6 * l + q))) := by
    intro t ht
    unfold f7_isOther_66
    rw [ix6, if_pos (inb_nI (by omega) (by decide)), nI_clamp (show 6 * l + q < 2 ^ 31 by omega), ltt]
    rcases ht with rfl | rfl
    · rw [if_pos (by decide)]
    · rw [if_pos (by decide)]
  show ∃ r C' M', (if nI (mkrs m (upA A l q w) W' q) = nI (mkrs m A W q) then some ((0 : Int32), C2) else some ((1 : Int32), C2)) = some (r, C') ∧ _ ∧ _
  by_cases cc : nI (mkrs m (upA A l q w) W' q) = nI (mkrs m A W q)
  · rw [if_pos cc, if_pos cc, fin 0 (Or.inl rfl)]
    exact ⟨0, C2, _, rfl, rfl, k1, km⟩
  · rw [if_neg cc, if_neg cc, fin 1 (Or.inr rfl)]
    exact ⟨1, C2, _, rfl, rfl, k1, km⟩
theorem edge_loop {l q : Nat} (hl : l < m) (hq : q < g) : ∀ n d (C M : Zs), d ≤ 20 → 20 - d < n → II C M → iV C M m g A H Sh W → ∃ (r : Int64) (C' M' : Zs), f6_edge_28 n (nI l) (nI q) (nI d) C = some (r, C') ∧ f7_edge_55 n (nI l) (nI q) (nI (mkrs m A W q)) (nI (A l q)) (nI d) M = some (r, M') ∧ II C' M' := by
  intro n
  induction n with
  | zero => intro d C M _ h; omega
  | succ n ih =>
    intro d C M hd hn h v
    rw [f6_edge_28, f7_edge_55]
    dsimp only
    rw [show (20 : Int32) = nI 20 from rfl]
    by_cases e : 20 ≤ d
    · rw [if_pos (nI_le e (by omega)), if_pos (nI_le e (by omega))]
      exact ⟨_, C, M, rfl, rfl, h⟩
    obtain ⟨r, C1, M1, a1, a2, a3, a4⟩ := edge_one v hl hq (nI d) (nI (A l q) + nI d) rfl
    rw [if_neg (nI_ge (by omega) (by omega)), if_neg (nI_ge (by omega) (by omega)), a1, a2, bd2s, bd2s]
    have h1 := II_st (II_cst h a3) a4
    by_cases c : r = 0
    · rw [if_pos c, if_pos c]
      obtain ⟨r', C2, M2, b1, b2, b3, b4⟩ := edge_one (iV_cm v a3 a4) hl hq (-nI d) (nI (A l q) - nI d) (Int32.sub_eq_add_neg _ _).symm
      rw [b1, b2, bd2s, bd2s]
      have h2 := II_st (II_cst h1 b3) b4
      by_cases c' : r' = 0
      · rw [if_pos c', if_pos c', ltt, ltt, show nI d + 1 = nI (d + 1) from nI_1 _]
        exact ih (d + 1) C2 M2 (by omega) (by omega) h2 (iV_cm (iV_cm v a3 a4) b3 b4)
      · rw [if_neg c', if_neg c']
        exact ⟨_, C2, M2, rfl, rfl, h2⟩
    · rw [if_neg c, if_neg c]
      exact ⟨_, C1, M1, rfl, rfl, h1⟩
theorem s_edge (h : II C M) (x1 x2 : Int32) : ∃ (r : Int64) (C' M' : Zs), (f6_edge x1 x2 C = some (r, C')) ∧ (f7_edge x1 x2 M = some (r, M')) ∧ II C' M' := by
  have h2 := II_t0 h
  unfold f7_edge f6_edge
  rw [ltt]
  generalize zI M 0 0 0 = M2 at h2 ⊢
  rcases h2.2.2.1 with v | ⟨m, g, A, H, Sh, W, v⟩
  · obtain ⟨e1, e2⟩ := gN_land v x1
    rw [e1, e2, if_pos rfl, if_pos rfl]
    exact ⟨_, C, M2, rfl, rfl, h2⟩
  rcases gV_land v x1 with ⟨e1, e2⟩ | ⟨l, hl, rfl, e1, e2⟩
  · rw [e1, e2, if_pos rfl, if_pos rfl]
    exact ⟨_, C, M2, rfl, rfl, h2⟩
  rw [e1, e2, if_neg i10, if_neg i10]
  rcases gV_good v x2 with ⟨e1, e2⟩ | ⟨q, hq, rfl, e1, e2⟩
  · rw [e1, e2, if_pos rfl, if_pos rfl]
    exact ⟨_, C, M2, rfl, rfl, h2⟩
  obtain ⟨M', R, a1, a2, a3, a4, a5, a6, a7⟩ := II_two h2 v
  have v' := a3
  obtain ⟨D, c37, g44, rW, mw, mk, ih⟩ := v'
  have d1 := D.1
  have d2 := D.2.1
  rw [e1, e2, if_neg i10, if_neg i10, a1, bd1s, p7_makersE D mw a5 hq, bd1s, ← mkrs_rest D rW a7, ix6, if_pos (inb_nI (by omega) (by decide)), nI_clamp (show 6 * l + q < 2 ^ 31 by omega), ltt, mw.2.2.2.2 l q hl hq]
  exact edge_loop hl hq fuel0 1 C M' (by omega) (by unfold fuel0; omega) a2 a3
/-! move -/
theorem go_loop (D : dat m g A H Sh) (c : cW C 37 m g A H Sh) (G : cG C 44 m W) (mw : mW M m g A H Sh) {R : Nat → Nat} (GR : cG M 11 3 R) (pr : ∀ a b, a < m → b < m → (W a ≤ W b ↔ R a ≤ R b)) : ∀ n j a b, a < m → b < m → 1 ≤ j → j ≤ m → m - j < n → ∃ n' a' b', a' < m ∧ b' < m ∧ f6_oneGoes_6 n (nI a) (nI b) (nI j) C = f6_oneGoes_6 (n' + 1) (nI a') (nI b') (nI m) C ∧ f7_movesOne_10 n (nI a) (nI b) (nI j) M = f7_movesOne_10 (n' + 1) (nI a') (nI b') (nI m) M := by
  have d1 := D.1
  intro n
  induction n with
  | zero => intro j a b _ _ _ _ h; omega
  | succ n ih =>
    intro j a b ha hb h1 hj hn
    by_cases e : j = m
    · subst e
      exact ⟨n, a, b, ha, hb, rfl, rfl⟩
    have hjm : j < m := by omega
    rw [f6_oneGoes_6, f7_movesOne_10]
    dsimp only
    have ba := (G a ha).2
    have bb := (G b hb).2
    have bj := (G j hjm).2
    have ra := (GR a (by omega)).2
    have rb := (GR b (by omega)).2
    have rj := (GR j (by omega)).2
    rw [c.1, mw.1, if_neg (nI_ge hjm (by omega)), if_neg (nI_ge hjm (by omega)), if_pos (inb_nI (by omega) (by decide)), if_pos (inb_nI (by omega) (by decide)), if_pos (inb_nI (by omega) (by decide)), if_pos (inb_nI (by omega) (by decide)), nI_clamp (show a < 2 ^ 31 by omega), nI_clamp (show j < 2 ^ 31 by omega), (G a ha).1, (G j hjm).1, (GR a (by omega)).1, (GR j (by omega)).1]
    have nx : ∀ a, a < m → ∃ n' a' b', a' < m ∧ b' < m ∧ f6_oneGoes_41 (f6_oneGoes_6 n) (nI a) (nI b) (nI j) C = f6_oneGoes_6 (n' + 1) (nI a') (nI b') (nI m) C ∧ f7_movesOne_39 (f7_movesOne_10 n) (nI b) (nI j) (nI a) M = f7_movesOne_10 (n' + 1) (nI a') (nI b') (nI m) M := by
      intro a ha
      unfold f6_oneGoes_41 f7_movesOne_39 f6_oneGoes_65 f7_movesOne_61
      rw [if_pos (inb_nI (by omega) (by decide)), if_pos (inb_nI (by omega) (by decide)), if_pos (inb_nI (by omega) (by decide)), if_pos (inb_nI (by omega) (by decide)), nI_clamp (show b < 2 ^ 31 by omega), nI_clamp (show j < 2 ^ 31 by omega), (G b hb).1, (G j hjm).1, (GR b (by omega)).1, (GR j (by omega)).1, ltt, ltt, ltt, ltt, show nI j + 1 = nI (j + 1) from nI_1 _, iLle (by omega) (by omega), iLle (by omega) (by omega)]
      by_cases cc : W j ≤ W b
      · rw [if_pos cc, if_pos ((pr j b hjm hb).mp cc)]
        exact ih (j + 1) a b ha hb (by omega) (by omega) (by omega)
      · rw [if_neg cc, if_neg (fun z => cc ((pr j b hjm hb).mpr z))]
        exact ih (j + 1) a j ha hjm (by omega) (by omega) (by omega)
    rw [iLle (by omega) (by omega), iLle (by omega) (by omega)]
    by_cases cc : W a ≤ W j
    · rw [if_pos cc, if_pos ((pr a j ha hjm).mp cc)]
      exact nx a ha
    · rw [if_neg cc, if_neg (fun z => cc ((pr a j ha hjm).mpr z))]
      exact nx j hjm
def mvH (H : Nat → Nat) (a b : Nat) : Nat → Nat := fun x => if x = b then H b + 1 else if x = a then H a - 1 else H x
theorem rest_cmp (D : dat m g A H Sh) {R : Nat → Nat} (rW : restN m g A H Sh W) (rR : restN m g A H Sh R) {a b : Nat} (ha : a < m) (hb : b < m) : W a ≤ W b ↔ R a ≤ R b := by
  constructor
  · intro z
    have := le_prop (W := W) (R := R) rW.1 (rest_p D rW rR) ha hb (x := 1) (y := 1) (by omega)
    omega
  · intro z
    have := le_prop (W := R) (R := W) rR.1 (rest_p' D rW rR) ha hb (x := 1) (y := 1) (by omega)
    omega
theorem one_goes (h : II C M) (v : iV C M m g A H Sh W) : ∃ r C' M' H' W', f6_oneGoes C = some (r, C') ∧ f7_movesOne M = some (r, M') ∧ II C' M' ∧ iV C' M' m g A H' Sh W' := by
  obtain ⟨M1, R, a1, a2, a3, a4, a5, a6, a7⟩ := II_two h v
  have v' := a3
  obtain ⟨D, c37, g44, rW, mw, mk, ih⟩ := v'
  have d1 := D.1
  unfold f6_oneGoes f7_movesOne
  rw [a1, bd1s]
  obtain ⟨n, a, b, ha, hb, e1, e2⟩ := go_loop D c37 g44 mw a5 (fun a b ha hb => rest_cmp D rW a7 ha hb) fuel0 1 0 0 (by omega) (by omega) (by omega) (by omega) (by unfold fuel0; omega)
  rw [show (0 : Int32) = nI 0 from rfl, show (1 : Int32) = nI 1 from rfl, e1, e2, f6_oneGoes_6, f7_movesOne_10]
  dsimp only
  have bHa := D.2.2.1 a ha
  have bHb := D.2.2.1 b hb
  rw [c37.1, mw.1, if_pos (nI_le (Nat.le_refl m) (by omega)), if_pos (nI_le (Nat.le_refl m) (by omega)), iNeq (by omega) (by omega), iNeq (by omega) (by omega)]
  by_cases c1 : a = b
  · rw [if_pos c1, if_pos c1]
    exact ⟨0, C, M1, H, W, rfl, rfl, a2, a3⟩
  have ia : inb (nI a) 3 = true := inb_nI (by omega) (by decide)
  have ib : inb (nI b) 3 = true := inb_nI (by omega) (by decide)
  rw [if_neg c1, if_neg c1, if_pos ia, if_pos ia, nI_clamp (show a < 2 ^ 31 by omega), nI_clamp (show b < 2 ^ 31 by omega), c37.2.2.2.1 a ha, c37.2.2.2.1 b hb, mw.2.2.2.1 a ha, mw.2.2.2.1 b hb, show (2 : Int32) = nI 2 from rfl, show (99 : Int32) = nI 99 from rfl, show (98 : Int32) = nI 98 from rfl, iNlt (by omega) (by omega), iNlt (by omega) (by omega), iNlt (by omega) (by omega), iNle (by omega) (by omega)]
  by_cases c2 : H a < 2
  · rw [if_pos c2, if_pos c2]
    exact ⟨0, C, M1, H, W, rfl, rfl, a2, a3⟩
  rw [if_neg c2, if_neg c2, if_pos ib, if_pos ib]
  by_cases c3 : H b < 99
  · rw [if_pos c3, if_pos (show H b ≤ 98 by omega)]
    obtain ⟨C1, t1, t2⟩ := p5_take (o := 55) (q := 37) (by omega) C
    have c55 := cW_tk D c37 t2
    have D' : dat m g A (mvH H a b) Sh := by
      refine ⟨D.1, D.2.1, fun x hx => ?_, D.2.2.2.1, D.2.2.2.2⟩
      have := D.2.2.1 x hx
      unfold mvH
      split
      · omega
      · split <;> omega
    have sb1 : nI (H a) - 1 = nI (H a - 1) := pk_sub (b := 1) (by omega)
    have w1 : (zI C1 (55 + 2) a (nI (H a - 1))).1 (55 + 2) b = nI (H b) := by
      rw [zI_rd, if_neg (fun z => c1 z.2.symm)]
      exact c55.2.2.2.1 b hb
    have w2 : (zI M1 5 a (nI (H a - 1))).1 5 b = nI (H b) := by
      rw [zI_rd, if_neg (fun z => c1 z.2.symm)]
      exact mw.2.2.2.1 b hb
    rw [t1, bd1s, if_pos ia, if_pos ia, if_pos ia, if_pos ia, c55.2.2.2.1 a ha, sb1, ltt, ltt, ltt, ltt, ltt, if_pos ib, if_pos ib, if_pos ib, if_pos ib, w1, w2, show nI (H b) + 1 = nI (H b + 1) from nI_1 _]
    have cN : cW (zI (zI C1 (55 + 2) a (nI (H a - 1))) (55 + 2) b (nI (H b + 1))) 55 m g A (mvH H a b) Sh := by
      refine ⟨by rw [zI_1n _ _ _ (by omega), zI_1n _ _ _ (by omega)]; exact c55.1, by rw [zI_1n _ _ _ (by omega), zI_1n _ _ _ (by omega)]; exact c55.2.1, fun q hq => by rw [zI_1n _ _ _ (by omega), zI_1n _ _ _ (by omega)]; exact c55.2.2.1 q hq, fun x hx => ?_, fun x q hx hq => by rw [zI_1n _ _ _ (by omega), zI_1n _ _ _ (by omega)]; exact c55.2.2.2.2 x q hx hq⟩
      rw [zI_rd, zI_rd]
      unfold mvH
      by_cases q1 : x = b
      · rw [if_pos ⟨rfl, q1⟩, if_pos q1]
      · rw [if_neg (fun z => q1 z.2), if_neg q1]
        by_cases q2 : x = a
        · rw [if_pos ⟨rfl, q2⟩, if_pos q2]
        · rw [if_neg (fun z => q2 z.2), if_neg q2]
          exact c55.2.2.2.1 x hx
    obtain ⟨M3, hM3⟩ : ∃ M3, M3 = zI (zI (zI M1 5 a (nI (H a - 1))) 5 b (nI (H b + 1))) 0 29 0 := ⟨_, rfl⟩
    have mN : mW M3 m g A (mvH H a b) Sh := by
      rw [hM3]
      refine ⟨by rw [zI_rd, if_neg (by decide), zI_1n _ _ _ (by decide), zI_1n _ _ _ (by decide)]; exact mw.1, by rw [zI_rd, if_neg (by decide), zI_1n _ _ _ (by decide), zI_1n _ _ _ (by decide)]; exact mw.2.1, fun q hq => by rw [zI_1n _ _ _ (by decide), zI_1n _ _ _ (by decide), zI_1n _ _ _ (by decide)]; exact mw.2.2.1 q hq, fun x hx => ?_, fun x q hx hq => by rw [zI_1n _ _ _ (by decide), zI_1n _ _ _ (by decide), zI_1n _ _ _ (by decide)]; exact mw.2.2.2.2 x q hx hq⟩
      rw [zI_1n _ _ _ (by decide), zI_rd, zI_rd]
      unfold mvH
      by_cases q1 : x = b
      · rw [if_pos ⟨rfl, q1⟩, if_pos q1]
      · rw [if_neg (fun z => q1 z.2), if_neg q1]
        by_cases q2 : x = a
        · rw [if_pos ⟨rfl, q2⟩, if_pos q2]
        · rw [if_neg (fun z => q2 z.2), if_neg q2]
          exact mw.2.2.2.1 x hx
    have m29 : M3.1 0 29 = 0 := by rw [hM3, zI_rd, if_pos ⟨rfl, rfl⟩]
    have m0 : ∀ x y, ¬ (x = 5) → ¬ (x = 0 ∧ y = 29) → M3.1 x y = M1.1 x y := fun x y h1 h2 => by rw [hM3, zI_rd, if_neg h2, zI_1n _ _ _ h1, zI_1n _ _ _ h1]
    have m0' : M3.2 = M1.2 := by rw [hM3]; rfl
    rw [← hM3]
    obtain ⟨C2, W', s1, s2, s3, s4⟩ := p1_settle (o := 55) (by omega) D' cN
    obtain ⟨M4, R', r1, r2, r3, r4, r5, r6, r7⟩ := p7_restAll D' mN (Or.inl m29) s4
    have k1 : cst C C2 := (tk55 t2).tr (((cst.z (by omega)).tr (cst.z (by omega))).tr (frm55 s2))
    have ba := (s3 a ha).2
    have bb := (s3 b hb).2
    have ra := (r3 a (by omega)).2
    have rb := (r3 b (by omega)).2
    have rc := rest_cmp D' s4 r7 ha hb
    rw [s1, r1, bd1s, bd1s, if_pos ib, if_pos ia, if_pos ib, if_pos ia, (s3 a ha).1, (s3 b hb).1, (r3 a (by omega)).1, (r3 b (by omega)).1, iLle (by omega) (by omega), iLlt (by omega) (by omega)]
    have q0 : ∀ x, x ≠ 0 → x ≠ 5 → x ≠ 12 → M4.1 x = M1.1 x := fun x h0 h1 h2 => funext fun y => (r2.1 x y h2 (fun z => h0 z.1)).trans (m0 x y h1 (fun z => h0 z.1))
    have q1 : ∀ y, y ≠ 29 → M4.1 0 y = M1.1 0 y := fun y hy => (r2.1 0 y (by decide) (fun z => hy z.2)).trans (m0 0 y (by decide) (fun z => hy z.2))
    have q2 : ∀ x, x ≠ 11 → x ≠ 13 → x ≠ 14 → M4.2 x = M1.2 x := fun x h1 h2 h3 => (r2.2 x h1 h2 h3).trans (by rw [m0'])
    by_cases c4 : W' a ≤ W' b
    · rw [if_pos c4, if_neg (by have := rc.mp c4; omega)]
      obtain ⟨C3, u1, u2⟩ := p5_take (o := 37) (q := 55) (by omega) C2
      rw [u1, bd1s]
      have cc : ∀ x, (x < 18 ∨ (46 ≤ x ∧ x ≤ 52)) → C3.1 x = C.1 x := fun x hx => (u2.2.1 x (by omega)).trans (k1.1 x (by omega))
      have iv : iV C3 M4 m g A (mvH H a b) Sh W' := by
        refine ⟨D', cW_tk D' (cW_frm (by omega) d1.2 cN s2) u2, cG_tk (o := 37) (q := 55) D' s3 u2, s4, mW_fa mN r2, Or.inr ⟨r5, R', r4, r6, r7⟩, ?_⟩
        exact iH_fr ih (by rw [cc 0 (by omega)]) ⟨fun x x1 x2 => cc x (by omega), (u2.2.2 53 (by decide)).trans k1.2.2⟩ (q1 25 (by decide)) (q2 15 (by decide) (by decide) (by decide)) (q2 16 (by decide) (by decide) (by decide))
      exact ⟨1, C3, M4, _, W', rfl, rfl, II_world a2 (Or.inr ⟨m, g, A, _, Sh, W', iv⟩) (fun x x1 x2 => cc x (by omega)) (by rw [cc 0 (by omega)]) (fun y hy => q1 y (by omega)) (fun x hx => q0 x (by omega) (by omega) (by omega)), iv⟩
    · rw [if_neg c4, if_pos (by have := fun z => c4 (rc.mpr z); omega)]
      have mN4 := mW_fa mN r2
      have sa : mvH H a b a = H a - 1 := by unfold mvH; rw [if_neg c1, if_pos rfl]
      have sb : mvH H a b b = H b + 1 := by unfold mvH; rw [if_pos rfl]
      have e5 : M4.1 5 a = nI (H a - 1) := by rw [mN4.2.2.2.1 a ha, sa]
      have e6 : (zI M4 5 a (nI (H a))).1 5 b = nI (H b + 1) := by rw [zI_rd, if_neg (fun z => c1 z.2.symm), mN4.2.2.2.1 b hb, sb]
      rw [if_pos ia, if_pos ia, e5, show nI (H a - 1) + 1 = nI (H a - 1 + 1) from nI_1 _, show H a - 1 + 1 = H a by omega, ltt, ltt, ltt, if_pos ib, if_pos ib, e6, nI_pred]
      obtain ⟨M5, hM5⟩ : ∃ M5, M5 = zI (zI (zI M4 5 a (nI (H a))) 5 b (nI (H b))) 0 29 0 := ⟨_, rfl⟩
      rw [← hM5]
      have y0 : ∀ x, x ≠ 0 → x ≠ 5 → x ≠ 12 → M5.1 x = M1.1 x := fun x h0 h1 h2 => by rw [hM5, zI_1n _ _ _ h0, zI_1n _ _ _ h1, zI_1n _ _ _ h1, q0 x h0 h1 h2]
      have y1 : ∀ y, y ≠ 29 → M5.1 0 y = M1.1 0 y := fun y hy => by rw [hM5, zI_rd, if_neg (fun z => hy z.2), zI_1n _ _ _ (by decide), zI_1n _ _ _ (by decide), q1 y hy]
      have y2 : M5.2 = M4.2 := by rw [hM5]; rfl
      have mw5 : mW M5 m g A H Sh := by
        refine ⟨by rw [y1 _ (by decide)]; exact mw.1, by rw [y1 _ (by decide)]; exact mw.2.1, fun q hq => by rw [y0 _ (by decide) (by decide) (by decide)]; exact mw.2.2.1 q hq, fun x hx => ?_, fun x q hx hq => by rw [y0 _ (by decide) (by decide) (by decide)]; exact mw.2.2.2.2 x q hx hq⟩
        rw [hM5, zI_1n _ _ _ (by decide), zI_rd, zI_rd]
        by_cases w1 : x = b
        · rw [if_pos ⟨rfl, w1⟩, w1]
        · rw [if_neg (fun z => w1 z.2)]
          by_cases w2 : x = a
          · rw [if_pos ⟨rfl, w2⟩, w2]
          · rw [if_neg (fun z => w2 z.2), mN4.2.2.2.1 x hx]
            unfold mvH
            rw [if_neg w1, if_neg w2]
      have iv : iV C2 M5 m g A H Sh W := by
        refine ⟨D, cW_same c37 d1.2 ⟨fun x x1 x2 => k1.1 x (by omega), k1.2.1⟩, cG_same (o := 37) g44 ⟨fun x x1 x2 => k1.1 x (by omega), k1.2.1⟩, rW, mw5, Or.inl (by rw [hM5, zI_rd, if_pos ⟨rfl, rfl⟩]), ?_⟩
        exact iH_fr ih (by rw [k1.1 0 (by omega)]) ⟨fun x x1 x2 => k1.1 x (by omega), k1.2.2⟩ (y1 25 (by decide)) (by rw [y2]; exact q2 15 (by decide) (by decide) (by decide)) (by rw [y2]; exact q2 16 (by decide) (by decide) (by decide))
      exact ⟨0, C2, M5, H, W, rfl, rfl, II_world a2 (Or.inr ⟨m, g, A, H, Sh, W, iv⟩) (fun x x1 x2 => k1.1 x (by omega)) (by rw [k1.1 0 (by omega)]) (fun y hy => y1 y (by omega)) (fun x hx => y0 x (by omega) (by omega) (by omega)), iv⟩
  · rw [if_neg c3, if_neg (show ¬ H b ≤ 98 by omega)]
    exact ⟨_, C, M1, H, W, rfl, rfl, a2, a3⟩
theorem move_loop (x : Int32) : ∀ n k (C M : Zs) (H W : Nat → Nat), k ≤ 5 → 5 - k < n → x ≤ nI 5 → II C M → iV C M m g A H Sh W → ∃ (r : Int64) (C' M' : Zs), f6_move_34 n x (nI k) C = some (r, C') ∧ f7_move_38 n x (nI k) M = some (r, M') ∧ II C' M' := by
  intro n
  induction n with
  | zero => intro k C M H W _ h; omega
  | succ n ih =>
    intro k C M H W hk hn hx h v
    rw [f6_move_34, f7_move_38]
    dsimp only
    by_cases e : x ≤ nI k
    · rw [if_pos e, if_pos e]
      exact ⟨_, C, M, rfl, rfl, h⟩
    rw [if_neg e, if_neg e]
    have hk5 : k < 5 := by
      by_cases z : k = 5
      · rw [z] at e; exact absurd hx e
      · omega
    obtain ⟨r, C', M', H', W', b1, b2, b3, b4⟩ := one_goes h v
    rw [b1, b2, bd2s, bd2s]
    by_cases c : r = 0
    · rw [if_pos c, if_pos c]
      exact ⟨_, C', M', rfl, rfl, b3⟩
    · rw [if_neg c, if_neg c, ltt, ltt, show nI k + 1 = nI (k + 1) from nI_1 _]
      exact ih (k + 1) C' M' H' W' (by omega) (by omega) hx b3 b4
theorem s_move (h : II C M) (x : Int32) : ∃ (r : Int64) (C' M' : Zs), (f6_move x C = some (r, C')) ∧ (f7_move x M = some (r, M')) ∧ II C' M' := by
  have h2 := II_t0 h
  unfold f7_move f6_move f5_isThere
  rw [ltt]
  generalize zI M 0 0 0 = M2 at h2 ⊢
  rw [show (1 : Int64) = (1 : Int32).toInt64 from rfl, show (5 : Int64) = (5 : Int32).toInt64 from rfl, inI]
  by_cases c1 : x < 1
  · rw [if_pos c1, if_pos c1, if_pos rfl]
    exact ⟨_, C, M2, rfl, rfl, h2⟩
  rw [if_neg c1, if_neg c1]
  by_cases c2 : 5 < x
  · rw [if_pos c2, if_pos rfl, if_neg (fun k => (i32lt _ _).mpr c2 k)]
    exact ⟨_, C, M2, rfl, rfl, h2⟩
  have c2' : x ≤ 5 := (i32le _ _).mp c2
  rw [if_neg c2, if_neg i10, if_pos c2']
  rcases h2.2.2.1 with v | ⟨m, g, A, H, Sh, W, v⟩
  · rw [v.1, v.2.2.1, if_pos (by decide), if_pos rfl]
    exact ⟨_, C, M2, rfl, rfl, h2⟩
  obtain ⟨C1, M1, a1, a2, a3, a4, a5⟩ := II_keep h2 v
  obtain ⟨D, c37, g44, rW, mw, mk, ih⟩ := v
  have d1 := D.1
  rw [c37.1, mw.1, if_neg (show ¬ (if nI m ≤ 0 then (0 : Int32) else 1) = 0 by rw [if_neg (nI_nle (by omega) (by omega))]; exact i10), if_neg (nI_ne0 (by omega) (by omega)), a1, a2, bd1s, bd1s]
  exact move_loop x fuel0 0 C1 M1 H W (by omega) (by unfold fuel0; omega) c2' a3 a4
end ED
