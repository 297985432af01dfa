/-! the reference's rings; more -/
section MQ
variable {C M T S : Zs} {m g : Nat} {A : Nat → Nat → Nat} {H Sh W : Nat → Nat} {sp : Nat → Nat}
theorem sL.rf {S : Zs} : sL S S := ⟨rfl, fun _ _ => rfl⟩
theorem sL.tr {S S' S'' : Zs} (h : sL S S') (h' : sL S' S'') : sL S S'' := ⟨h'.1.trans h.1, fun k e => (h'.2 k e).trans (h.2 k e)⟩
theorem sL.put {S : Zs} {j : Nat} {v : Int64} : sL S (zL S 0 j v) := ⟨rfl, fun k e => zL_2n _ _ _ e⟩
theorem gvM_some {a b x : Nat} : ∃ S', gvM A a b (some x) S = some (1, S') ∧ sL S S' ∧ S'.2 0 31 = S.2 0 31 * lN (A b x) ∧ S'.2 0 32 = S.2 0 32 * lN (A a x) := by
  refine ⟨_, rfl, sL.put.tr sL.put, ?_, ?_⟩
  · rw [zL_rd, if_neg (by decide), zL_rd, if_pos ⟨rfl, rfl⟩]
  · rw [zL_rd, if_pos ⟨rfl, rfl⟩]
theorem p7_gives (D : dat m g A H Sh) (w : mW T m g A H Sh) {at' : Nat} (hat : at' + g ≤ 320) (hs : ∀ q, q < g → T.1 3 (at' + q) = nI (sp q) ∧ sp q < 8) {a b : Nat} (ha : a < m) (hb : b < m) {ia ib : Int32} (ea : ia = nI a) (eb : ib = nI b) (s : sL T S) : f7_gives (nI at') ia ib S = gvM A a b (bg A sp a b g) S := by
  subst ea eb
  have d2 := D.2.1
  have w' : mW S m g A H Sh := mW_fr2 w (by rw [s.1]) (by rw [s.1]) (fun a _ _ => by rw [s.1])
  exact p7_bg D w' hat (fun q hq => by rw [s.1]; exact hs q hq) ha hb fuel0 0 (by omega) (by unfold fuel0; omega)
theorem ring_end {u v : Nat} (hu : u ≤ 1000000) (hv : v ≤ 1000000) (e1 : S.2 0 31 = lN u) (e2 : S.2 0 32 = lN v) : f7_isRing_62 S = some (if u < v then 1 else 0, S) := by
  unfold f7_isRing_62 f7_isRing_67
  rw [if_neg i10, e1, e2]
  by_cases c : u < v
  · rw [if_pos c, if_neg (fun k => by have := (pk_lLE (by omega) (by omega)).mp k; omega)]
  · rw [if_neg c, if_pos ((pk_lLE (by omega) (by omega)).mpr (by omega))]
theorem p7_ring2 (D : dat m g A H Sh) (w : mW T m g A H Sh) {at' : Nat} (hat : at' + g ≤ 320) (hs : ∀ q, q < g → T.1 3 (at' + q) = nI (sp q) ∧ sp q < 8) {a b : Nat} (ha : a < m) (hb : b < m) {ia ib : Int32} (ea : ia = nI a) (eb : ib = nI b) (s : sL T S) : ∃ S', f7_isRing (nI at') ia ib (-1000000) S = some (rn2 A sp g a b, S') ∧ sL T S' := by
  unfold f7_isRing
  rw [ltt, ltt]
  have s0 : sL T (zL (zL S 0 31 1) 0 32 1) := s.tr (sL.put.tr sL.put)
  have k1 : (zL (zL S 0 31 1) 0 32 1).2 0 31 = lN 1 := by rw [zL_rd, if_neg (by decide), zL_rd, if_pos ⟨rfl, rfl⟩]; rfl
  have k2 : (zL (zL S 0 31 1) 0 32 1).2 0 32 = lN 1 := by rw [zL_rd, if_pos ⟨rfl, rfl⟩]; rfl
  generalize zL (zL S 0 31 1) 0 32 1 = S0 at s0 k1 k2 ⊢
  rw [p7_gives D w hat hs ha hb ea eb s0]
  unfold rn2
  cases hx : bg A sp a b g with
  | none => exact ⟨_, rfl, s0⟩
  | some x =>
    obtain ⟨S1, g1, g2, g3, g4⟩ := gvM_some (A := A) (S := S0) (a := a) (b := b) (x := x)
    have s1 := s0.tr g2
    rw [g1, bd2s, if_neg i10, if_pos rfl, p7_gives D w hat hs hb ha eb ea s1]
    cases hy : bg A sp b a g with
    | none => exact ⟨_, rfl, s1⟩
    | some y =>
      obtain ⟨S2, q1, q2, q3, q4⟩ := gvM_some (A := A) (S := S1) (a := b) (b := a) (x := y)
      rw [q1, bd2s, if_neg i10]
      have m1 := mulb D hb ha (bg_lt hx) (bg_lt hy)
      have m2 := mulb D ha hb (bg_lt hx) (bg_lt hy)
      refine ⟨S2, ring_end (u := A b x * A a y) (v := A a x * A b y) (by omega) (by omega) ?_ ?_, s1.tr q2⟩
      · rw [q3, g3, k1, lN_mul, lN_mul, Nat.one_mul]
      · rw [q4, g4, k2, lN_mul, lN_mul, Nat.one_mul]
theorem p7_ring3 (D : dat m g A H Sh) (w : mW T m g A H Sh) {at' : Nat} (hat : at' + g ≤ 320) (hs : ∀ q, q < g → T.1 3 (at' + q) = nI (sp q) ∧ sp q < 8) {a b c : Nat} (ha : a < m) (hb : b < m) (hc : c < m) {ia ib ic : Int32} (ea : ia = nI a) (eb : ib = nI b) (ec : ic = nI c) (nc : ¬ ic = -1000000) (s : sL T S) : ∃ S', f7_isRing (nI at') ia ib ic S = some (rn3 A sp g a b c, S') ∧ sL T S' := by
  unfold f7_isRing
  rw [ltt, ltt]
  have s0 : sL T (zL (zL S 0 31 1) 0 32 1) := s.tr (sL.put.tr sL.put)
  have k1 : (zL (zL S 0 31 1) 0 32 1).2 0 31 = lN 1 := by rw [zL_rd, if_neg (by decide), zL_rd, if_pos ⟨rfl, rfl⟩]; rfl
  have k2 : (zL (zL S 0 31 1) 0 32 1).2 0 32 = lN 1 := by rw [zL_rd, if_pos ⟨rfl, rfl⟩]; rfl
  generalize zL (zL S 0 31 1) 0 32 1 = S0 at s0 k1 k2 ⊢
  rw [p7_gives D w hat hs ha hb ea eb s0]
  unfold rn3
  cases hx : bg A sp a b g with
  | none => exact ⟨_, rfl, s0⟩
  | some x =>
    obtain ⟨S1, g1, g2, g3, g4⟩ := gvM_some (A := A) (S := S0) (a := a) (b := b) (x := x)
    have s1 := s0.tr g2
    rw [g1, bd2s, if_neg i10, if_neg nc, p7_gives D w hat hs hb hc eb ec s1]
    cases hy : bg A sp b c g with
    | none => exact ⟨_, rfl, s1⟩
    | some y =>
      obtain ⟨S2, q1, q2, q3, q4⟩ := gvM_some (A := A) (S := S1) (a := b) (b := c) (x := y)
      have s2 := s1.tr q2
      rw [q1, bd2s, if_neg i10, p7_gives D w hat hs hc ha ec ea s2]
      cases hz : bg A sp c a g with
      | none => exact ⟨_, rfl, s2⟩
      | some z =>
        obtain ⟨S3, r1, r2, r3, r4⟩ := gvM_some (A := A) (S := S2) (a := c) (b := a) (x := z)
        rw [r1, bd2s, if_neg i10]
        have m1 := mulb3 D hb hc ha (bg_lt hx) (bg_lt hy) (bg_lt hz)
        have m2 := mulb3 D ha hb hc (bg_lt hx) (bg_lt hy) (bg_lt hz)
        refine ⟨S3, ring_end (u := A b x * A c y * A a z) (v := A a x * A b y * A c z) (by omega) (by omega) ?_ ?_, s2.tr r2⟩
        · rw [r3, q3, g3, k1, lN_mul, lN_mul, lN_mul, Nat.one_mul]
        · rw [r4, q4, g4, k2, lN_mul, lN_mul, lN_mul, Nat.one_mul]
theorem m119_st (k : Int32 → Int32 → Zs → Option (Int64 × Zs)) (n : Nat) (x5 x6 x7 : Int32) (S : Zs) : f7_more_119 k (n + 1) x5 x6 x7 S = if x6 ≤ x7 then k x5 (x6 + 1) S else bd2 (f7_isRing x5 x7 x6 (-1000000) S) fun r S1 => if r = 0 then f7_more_119 k n x5 x6 (x7 + 1) S1 else some (((x7 + 1) + (8 * (x6 + 1))).toInt64, S1) := rfl
theorem m107_st (n : Nat) (x5 x6 : Int32) (S : Zs) : f7_more_107 (n + 1) x5 x6 S = if S.1 0 5 ≤ x6 then (if S.1 0 5 = 3 then bd2 (f7_isRing x5 0 2 1 S) fun r S1 => if r = 0 then f7_more_191 x5 S1 else some (153, S1) else f7_more_191 x5 S) else f7_more_119 (f7_more_107 n) fuel0 x5 x6 0 S := rfl
theorem p7_ringAll (D : dat m g A H Sh) (w : mW T m g A H Sh) {at' : Nat} (hat : at' + g ≤ 320) (hs : ∀ q, q < g → T.1 3 (at' + q) = nI (sp q) ∧ sp q < 8) : ∃ S', f7_more_107 fuel0 (nI at') 1 T = some (ring A sp m g, S') ∧ sL T S' := by
  have d1 := D.1
  have f4 : fuel0 = 996 + 1 + 1 + 1 + 1 := rfl
  have l5 : ∀ S, sL T S → S.1 0 5 = nI m := fun S s => by rw [s.1]; exact w.1
  rw [f4, m107_st, l5 T sL.rf]
  unfold ring
  rcases (show m = 1 ∨ m = 2 ∨ m = 3 by omega) with rfl | rfl | rfl
  · rw [if_pos (by decide), if_neg (by decide), if_pos rfl]
    unfold f7_more_191
    rw [l5 T sL.rf, if_neg (by decide)]
    exact ⟨_, rfl, sL.rf⟩
  · rw [if_neg (by decide), if_neg (by decide), if_pos rfl, f4, m119_st, if_neg (by decide)]
    obtain ⟨S1, e1, s1⟩ := p7_ring2 D w hat hs (a := 0) (b := 1) (by decide) (by decide) (ia := 0) (ib := 1) rfl rfl sL.rf
    rw [e1, bd2s]
    unfold lrg
    by_cases c : rn2 A sp g 0 1 = 0
    · rw [if_pos c, if_pos c, m119_st, if_pos (by decide), m107_st, l5 S1 s1, if_pos (by decide), if_neg (by decide)]
      unfold f7_more_191
      rw [l5 S1 s1, if_neg (by decide)]
      exact ⟨_, rfl, s1⟩
    · rw [if_neg c, if_neg c]
      exact ⟨_, rfl, s1⟩
  · rw [if_neg (by decide), if_neg (by decide), if_neg (by decide), f4, m119_st, if_neg (by decide)]
    obtain ⟨S1, e1, s1⟩ := p7_ring2 D w hat hs (a := 0) (b := 1) (by decide) (by decide) (ia := 0) (ib := 1) rfl rfl sL.rf
    rw [e1, bd2s]
    unfold lrg
    by_cases c : rn2 A sp g 0 1 = 0
    · rw [if_pos c, if_pos c, m119_st, if_pos (by decide), m107_st, l5 S1 s1, if_neg (by decide), f4, m119_st, if_neg (by decide)]
      obtain ⟨S2, e2, s2⟩ := p7_ring2 D w hat hs (a := 0) (b := 2) (by decide) (by decide) (ia := 0) (ib := 1 + 1) rfl rfl s1
      rw [e2, bd2s]
      by_cases c2 : rn2 A sp g 0 2 = 0
      · rw [if_pos c2, if_pos c2, m119_st, if_neg (by decide)]
        obtain ⟨S3, e3, s3⟩ := p7_ring2 D w hat hs (a := 1) (b := 2) (by decide) (by decide) (ia := 0 + 1) (ib := 1 + 1) rfl rfl s2
        rw [e3, bd2s]
        by_cases c3 : rn2 A sp g 1 2 = 0
        · rw [if_pos c3, if_pos c3, m119_st, if_pos (by decide), m107_st, l5 S3 s3, if_pos (by decide), if_pos (by decide)]
          obtain ⟨S4, e4, s4⟩ := p7_ring3 D w hat hs (a := 0) (b := 2) (c := 1) (by decide) (by decide) (by decide) (ia := 0) (ib := 2) (ic := 1) rfl rfl rfl (by decide) s3
          rw [e4, bd2s]
          by_cases c4 : rn3 A sp g 0 2 1 = 0
          · rw [if_pos c4, if_pos c4]
            unfold f7_more_191
            rw [l5 S4 s4, if_pos (by decide)]
            obtain ⟨S5, e5, s5⟩ := p7_ring3 D w hat hs (a := 0) (b := 1) (c := 2) (by decide) (by decide) (by decide) (ia := 0) (ib := 1) (ic := 2) rfl rfl rfl (by decide) s4
            rw [e5, bd2s]
            by_cases c5 : rn3 A sp g 0 1 2 = 0
            · rw [if_pos c5, if_pos c5]
              exact ⟨_, rfl, s5⟩
            · rw [if_neg c5, if_neg c5]
              exact ⟨_, rfl, s5⟩
          · rw [if_neg c4, if_neg c4]
            exact ⟨_, rfl, s4⟩
        · rw [if_neg c3, if_neg c3]
          exact ⟨_, rfl, s3⟩
      · rw [if_neg c2, if_neg c2]
        exact ⟨_, rfl, s2⟩
    · rw [if_neg c, if_neg c]
      exact ⟨_, rfl, s1⟩
theorem mo_cl (D : dat m g A H Sh) (c : cW C 37 m g A H Sh) {r i : Nat} (hr : r < 8) (hi : i + g ≤ 40) (V : Nat → Int32) (hV : ∀ l, l < g → C.1 (3 + r) (i + l) = V l) : ∀ n l (S : Zs), l ≤ g → g - l < n → but C S 65 → (∀ j, j < l → okr (nI (2 ^ m - 1)) (V j) ∧ S.1 65 j = V j) → ∃ S', but C S' 65 ∧ (((∃ l, l < g ∧ ¬ okr (nI (2 ^ m - 1)) (V l)) ∧ f6_more_52 n (nI r) (nI i) (nI l) S = some ((-9000000000000000001 : Int64), S')) ∨ ((∀ j, j < g → okr (nI (2 ^ m - 1)) (V j) ∧ S'.1 65 j = V j) ∧ f6_more_52 n (nI r) (nI i) (nI l) S = bd1 (f6_leastRing S') fun r117 => bd2 (f6_fine r117 S') fun r120 S120 => some (r120, S120))) := by
  have d1 := D.1
  have d2 := D.2.1
  intro n
  induction n with
  | zero => intro l S _ h; omega
  | succ n ih =>
    intro l S hl hn hS hj
    have cS : cW S 37 m g A H Sh := cW_but c hS (by decide) (by decide) (by decide) (fun l _ => by omega)
    unfold f6_more_52
    rw [cS.2.1]
    by_cases e : g ≤ l
    · rw [if_pos (nI_le e (by omega))]
      exact ⟨S, hS, Or.inr ⟨fun j h => hj j (by omega), rfl⟩⟩
    · rw [if_neg (nI_ge (by omega) (by omega)), nI_add, p2_item (C := S) hr (by omega), bd1s, hS.2 (3 + r) (i + l) (by omega), hV l (by omega), p5_allLands D cS]
      by_cases c1 : V l < 1
      · rw [if_pos c1]
        exact ⟨S, hS, Or.inl ⟨⟨l, by omega, fun k => k.1 c1⟩, rfl⟩⟩
      rw [if_neg c1]
      by_cases c2 : V l ≤ nI (2 ^ m - 1)
      · rw [if_pos c2, if_pos (inb_nI (by omega) (by decide)), ltt, ltt, nI_clamp (by omega), show nI l + 1 = nI (l + 1) from nI_1 _]
        exact ih (l + 1) _ (by omega) (by omega) (hS.tr but.put) (fun j h => by
          rw [zI_rd]
          by_cases e : j = l
          · rw [if_pos ⟨rfl, e⟩, e]
            exact ⟨⟨c1, c2⟩, rfl⟩
          · rw [if_neg (fun q => e q.2)]
            exact hj j (by omega))
      · rw [if_neg c2]
        exact ⟨S, hS, Or.inl ⟨⟨l, by omega, fun k => c2 k.2⟩, rfl⟩⟩
theorem mo_m (D : dat m g A H Sh) (w : mW M m g A H Sh) {at' : Nat} (hat : at' + g ≤ 320) (V : Nat → Int32) (hV : ∀ l, l < g → M.1 3 (at' + l) = V l) : ∀ n l, l ≤ g → g - l < n → (∀ j, j < l → okr (nI (2 ^ m - 1)) (V j)) → ((∃ l, l < g ∧ ¬ okr (nI (2 ^ m - 1)) (V l)) ∧ f7_more_57 n (nI at') (nI l) M = some ((-9000000000000000001 : Int64), M)) ∨ ((∀ j, j < g → okr (nI (2 ^ m - 1)) (V j)) ∧ f7_more_57 n (nI at') (nI l) M = f7_more_107 fuel0 (nI at') 1 (zI M 0 1 0)) := by
  have d1 := D.1
  have d2 := D.2.1
  intro n
  induction n with
  | zero => intro l _ h; omega
  | succ n ih =>
    intro l hl hn hj
    unfold f7_more_57
    rw [w.2.1]
    by_cases e : g ≤ l
    · rw [if_pos (nI_le e (by omega)), ltt]
      exact Or.inr ⟨fun j h => hj j (by omega), rfl⟩
    · rw [if_neg (nI_ge (by omega) (by omega)), nI_add, if_pos (inb_nI (by omega) (by decide)), nI_clamp (by omega), hV l (by omega), p7_every D w]
      by_cases c : okr (nI (2 ^ m - 1)) (V l)
      · rw [(rng_1 _ _).1 c, if_neg i10, ltt, show nI l + 1 = nI (l + 1) from nI_1 _]
        exact ih (l + 1) (by omega) (by omega) (fun j h => by
          by_cases e : j = l
          · rw [e]; exact c
          · exact hj j (by omega))
      · rw [(rng_1 _ _).2 c, if_pos rfl]
        exact Or.inl ⟨⟨l, by omega, c⟩, rfl⟩
theorem s_more (h : II C M) (x1 x2 : Int32) : ∃ (r : Int64) (C' M' : Zs), (f6_more x1 x2 C = some (r, C')) ∧ (f7_more x1 x2 M = some (r, M')) ∧ II C' M' := by
  have h2 := II_t0 h
  unfold f7_more f6_more
  rw [ltt]
  generalize zI M 0 0 0 = M2 at h2 ⊢
  rcases g_row x1 with ⟨e1, e2⟩ | ⟨r, hr, rfl, e1, e2⟩
  · rw [e1, e2, if_pos rfl, if_pos rfl]
    exact ⟨_, C, M2, rfl, rfl, h2⟩
  rw [e1, e2, if_neg i10, if_neg i10]
  unfold f5_isThere
  rcases h2.2.2.1 with v | ⟨m, g, A, H, Sh, W, v⟩
  · rw [v.1, v.2.2.1, if_pos (by decide), if_pos rfl]
    exact ⟨_, C, M2, rfl, rfl, h2⟩
  have v' := v
  obtain ⟨D, c37, g44, rW, mw, mk, ih⟩ := v'
  have d1 := D.1
  have d2 := D.2.1
  have p8 := pw8 d1.2
  rw [c37.1, c37.2.1, mw.1, mw.2.1, if_neg (show ¬ (if nI m ≤ 0 then (0 : Int32) else 1) = 0 by rw [if_neg (nI_nle (by omega) (by omega))]; exact i10), if_neg (nI_ne0 (by omega) (by omega))]
  rcases g_look h2.1 hr (k := g) (by omega) x2 with ⟨f, f1, f2, f3⟩ | ⟨i, n, rfl, n1, n2, f2, f3, f4⟩
  · rw [f2, f3, bd1s, bd2s, if_neg (f2bad f f1).1, if_neg (f2bad f f1).2]
    exact ⟨_, _, _, rfl, rfl, II_fine h2 f⟩
  rw [f2, f3, bd1s, bd2s, if_pos rfl, if_pos (by decide), ltt, ix40]
  have hV : ∀ l, l < g → M2.1 3 (40 * r + i + l) = C.1 (3 + r) (i + l) := fun l hl => by rw [f4 (i + l) (by omega), Nat.add_assoc]
  obtain ⟨S', q1, q2⟩ := mo_cl D c37 hr (i := i) (by omega) (fun l => C.1 (3 + r) (i + l)) (fun _ _ => rfl) fuel0 0 C (by omega) (by unfold fuel0; omega) but.rf (fun j hj => by omega)
  have kC : cst C S' := ⟨fun a _ => funext fun b => q1.2 a b (by omega), by rw [q1.1], by rw [q1.1]⟩
  rcases mo_m D mw (at' := 40 * r + i) (by omega) (fun l => C.1 (3 + r) (i + l)) hV fuel0 0 (by omega) (by unfold fuel0; omega) (fun j hj => by omega) with ⟨⟨l, hl, hb⟩, e⟩ | ⟨hg, e⟩
  · rcases q2 with ⟨_, e'⟩ | ⟨hg, _⟩
    · rw [show (0 : Int32) = nI 0 from rfl, e, e']
      exact ⟨_, _, _, rfl, rfl, II_cst h2 kC⟩
    · exact absurd (hg l hl).1 hb
  rcases q2 with ⟨⟨l, hl, hb⟩, _⟩ | ⟨hg2, e'⟩
  · exact absurd (hg l hl) hb
  have ex : ∃ w : Nat → Nat, ∀ l, l < g → 1 ≤ w l ∧ w l < 8 ∧ C.1 (3 + r) (i + l) = nI (w l) := by
    refine ⟨fun l => (C.1 (3 + r) (i + l)).toNatClampNeg, fun l hl => ?_⟩
    obtain ⟨w, h1, h2, h3⟩ := okr_nat (n := 2 ^ m - 1) rfl (by omega) (hg l hl)
    have h3' : C.1 (3 + r) (i + l) = nI w := h3
    show 1 ≤ (C.1 (3 + r) (i + l)).toNatClampNeg ∧ (C.1 (3 + r) (i + l)).toNatClampNeg < 8 ∧ C.1 (3 + r) (i + l) = nI (C.1 (3 + r) (i + l)).toNatClampNeg
    rw [h3', nI_clamp (by omega)]
    exact ⟨h1, by omega, rfl⟩
  obtain ⟨sp, hsp⟩ := ex
  have cS : cW S' 37 m g A H Sh := cW_but c37 q1 (by decide) (by decide) (by decide) (fun l _ => by omega)
  have eC := p6_leastRing (sp := sp) D cS (fun q hq => ⟨(hg2 q hq).2.trans (hsp q hq).2.2, (hsp q hq).2.1⟩)
  have mT : mW (zI M2 0 1 0) m g A H Sh := mW_fr2 mw (by rw [zI_rd, if_neg (by decide)]) (by rw [zI_rd, if_neg (by decide)]) (fun a _ _ => zI_1n _ _ _ (by omega))
  obtain ⟨T', t1, t2⟩ := p7_ringAll (sp := sp) D mT (at' := 40 * r + i) (by omega) (fun q hq => by
    rw [zI_1n _ _ _ (by decide), hV q hq]
    exact ⟨(hsp q hq).2.2, (hsp q hq).2.1⟩)
  rw [show (0 : Int32) = nI 0 from rfl, e, e', eC, bd1s, show f7_more_107 fuel0 (nI (40 * r + i)) 1 (zI M2 0 1 0) = _ from t1]
  refine ⟨_, _, _, rfl, rfl, ?_⟩
  exact II_st (II_fine (II_cst h2 kC) 0) ⟨fun b _ => by rw [t2.1], fun a _ _ => by rw [t2.1], fun a e _ _ => t2.2 a e⟩
end MQ
