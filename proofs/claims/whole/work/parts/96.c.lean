/-! READING: the grammar, both beside one another -/
section GR
variable {C M C' M' : Zs} {N m g s : Nat} {T : Nat → Nat}
/-- both stand at the token from s on; no fault -/
def tk (C M : Zs) (N : Nat) (T : Nat → Nat) (s : Nat) : Prop := tpC C N T ∧ C.1 13 4 = nI s ∧ C.1 13 5 = nI (tE T N s) ∧ C.1 13 6 = nI (kC T N s) ∧ (kC T N s = 3 → C.1 13 7 = nI (dv T s (tE T N s - s))) ∧ mt M T N s
theorem tk_go (ht : txt N T) (h : tk C M N T s) : ∃ C' M' s', f3_step C = some C' ∧ f7_next M = some M' ∧ c4 C C' ∧ m4 M M' ∧ tk C' M' N T s' := by
  obtain ⟨h1, h2, h3, h4, h5, h6, h7, h8, h9, h10, h11, h12⟩ := h
  have el := tE_le (T := T) (N := N) (s := s) h6
  obtain ⟨C', a1, a2, a3, a4, a5, a6⟩ := p3_step ht h1 el.2 h3
  obtain ⟨M', b1, b2, b3, b4, b5, b6⟩ := p7_next ht h7 el.2 h9
  have sl := tS_le (T := T) el.2
  exact ⟨C', M', _, a1, b1, a2, b2, tpC_4 h1 a2, a3, a4, a5, a6, sl.2, tpM_4 h7 b2, b3, b4, b5, b6, (b2.2.2 23 (by omega)).trans h12⟩
theorem tk_fr (h : tk C M N T s) (c1 : C'.1 13 = C.1 13) (c2 : C'.1 14 = C.1 14) (m1 : ∀ b, 18 ≤ b → b ≤ 23 → M'.1 0 b = M.1 0 b) (m2 : M'.1 10 = M.1 10) : tk C' M' N T s := by
  obtain ⟨h1, h2, h3, h4, h5, h6, h7, h8, h9, h10, h11, h12⟩ := h
  refine ⟨⟨by rw [c1]; exact h1.1, fun k hk => by rw [c2]; exact h1.2 k hk⟩, by rw [c1]; exact h2, by rw [c1]; exact h3, by rw [c1]; exact h4, fun z => by rw [c1]; exact h5 z, h6, ⟨by rw [m1 18 (by omega) (by omega)]; exact h7.1, fun k hk => by rw [m2]; exact h7.2 k hk⟩, by rw [m1 21 (by omega) (by omega)]; exact h8, by rw [m1 19 (by omega) (by omega)]; exact h9, by rw [m1 22 (by omega) (by omega)]; exact h10, by rw [m1 20 (by omega) (by omega)]; exact h11, by rw [m1 23 (by omega) (by omega)]; exact h12⟩
/-- the drafts -/
def drf (C M : Zs) (m g : Nat) : Prop := C.1 55 0 = nI m ∧ C.1 55 1 = nI g ∧ M.1 0 10 = nI m ∧ M.1 0 11 = nI g ∧ m ≤ 3 ∧ g ≤ 6 ∧ (∀ q, q < g → ∃ v, 1 ≤ v ∧ v ≤ 20 ∧ C.1 56 q = nI v ∧ M.1 7 q = nI v) ∧ (∀ l, l < m → ∃ v, 1 ≤ v ∧ v ≤ 99 ∧ C.1 57 l = nI v ∧ M.1 8 l = nI v) ∧ ∀ l q, l < m → q < g → ∃ v, 1 ≤ v ∧ v ≤ 20 ∧ C.1 (59 + l) q = nI v ∧ M.1 9 (6 * l + q) = nI v
theorem drf_fr (h : drf C M m g) (c1 : ∀ a, 55 ≤ a → a ≤ 61 → C'.1 a = C.1 a) (m0 : M'.1 0 10 = M.1 0 10) (m1 : M'.1 0 11 = M.1 0 11) (m2 : ∀ a, 7 ≤ a → a ≤ 9 → M'.1 a = M.1 a) : drf C' M' m g := by
  obtain ⟨h1, h2, h3, h4, h5, h6, h7, h8, h9⟩ := h
  refine ⟨by rw [c1 55 (by omega) (by omega)]; exact h1, by rw [c1 55 (by omega) (by omega)]; exact h2, by rw [m0]; exact h3, by rw [m1]; exact h4, h5, h6, fun q hq => by rw [c1 56 (by omega) (by omega), m2 7 (by omega) (by omega)]; exact h7 q hq, fun l hl => by rw [c1 57 (by omega) (by omega), m2 8 (by omega) (by omega)]; exact h8 l hl, fun l q hl hq => by rw [c1 (59 + l) (by omega) (by omega), m2 9 (by omega) (by omega)]; exact h9 l q hl hq⟩
theorem drf_4 (h : drf C M m g) (k : c4 C C') (k' : m4 M M') : drf C' M' m g := drf_fr h (fun a x1 x2 => k.2.1 a (by omega)) (k'.2.2 10 (by omega)) (k'.2.2 11 (by omega)) (fun a x1 x2 => k'.2.1 a (by omega))
/-- what reading may change -/
def cR (C C' : Zs) : Prop := C'.2 = C.2 ∧ (∀ a, a ≠ 13 → (a < 55 ∨ 62 ≤ a) → C'.1 a = C.1 a) ∧ C'.1 13 1 = C.1 13 1
def mR (M M' : Zs) : Prop := M'.2 = M.2 ∧ (∀ a, a ≠ 0 → a ≠ 7 → a ≠ 8 → a ≠ 9 → M'.1 a = M.1 a) ∧ ∀ b, (b < 10 ∨ (12 ≤ b ∧ b < 19) ∨ 25 ≤ b) → M'.1 0 b = M.1 0 b
theorem cR.rf : cR C C := ⟨rfl, fun _ _ _ => rfl, rfl⟩
theorem cR.tr {C'' : Zs} (h : cR C C') (h' : cR C' C'') : cR C C'' := ⟨h'.1.trans h.1, fun a e1 e2 => (h'.2.1 a e1 e2).trans (h.2.1 a e1 e2), h'.2.2.trans h.2.2⟩
theorem mR.rf : mR M M := ⟨rfl, fun _ _ _ _ _ => rfl, fun _ _ => rfl⟩
theorem mR.tr {M'' : Zs} (h : mR M M') (h' : mR M' M'') : mR M M'' := ⟨h'.1.trans h.1, fun a e1 e2 e3 e4 => (h'.2.1 a e1 e2 e3 e4).trans (h.2.1 a e1 e2 e3 e4), fun b e => (h'.2.2 b e).trans (h.2.2 b e)⟩
theorem c4.R (h : c4 C C') : cR C C' := ⟨h.1, fun a e _ => h.2.1 a e, h.2.2 1 (by omega)⟩
theorem m4.R (h : m4 M M') : mR M M' := ⟨h.1, fun a e _ _ _ => h.2.1 a e, fun b e => h.2.2 b (by omega)⟩
theorem cR.z {k j : Nat} {v : Int32} (hk : 55 ≤ k ∧ k < 62) : cR C (zI C k j v) := ⟨rfl, fun a _ e => zI_1n _ _ _ (by omega), by rw [zI_1n _ _ _ (by omega)]⟩
theorem mR.z {k j : Nat} {v : Int32} (hk : k = 7 ∨ k = 8 ∨ k = 9) : mR M (zI M k j v) := ⟨rfl, fun a _ e1 e2 e3 => zI_1n _ _ _ (by omega), fun b _ => by rw [zI_1n _ _ _ (by omega)]⟩
theorem mR.z0 {j : Nat} {v : Int32} (hj : j = 10 ∨ j = 11 ∨ (19 ≤ j ∧ j < 25)) : mR M (zI M 0 j v) := ⟨rfl, fun a e _ _ _ => zI_1n _ _ _ e, fun b e => by rw [zI_rd, if_neg (by omega)]⟩
/-- a fault, told by both -/
def FL (C M : Zs) : Prop := ∃ k s, 1 ≤ k ∧ k ≤ 3 ∧ s ≤ 400 ∧ C.1 13 2 = nI k ∧ C.1 13 3 = nI s ∧ M.1 0 23 = nI k ∧ M.1 0 24 = nI s
/-- how a piece ends -/
def oc (C M : Zs) (N : Nat) (T : Nat → Nat) (m g : Nat) (r : Int32) (C' M' : Zs) : Prop := cR C C' ∧ mR M M' ∧ ((r = 1 ∧ C'.1 13 2 = C.1 13 2 ∧ (∃ s, tk C' M' N T s) ∧ drf C' M' m g) ∨ (r = 0 ∧ FL C' M'))
theorem oc.pre {C0 M0 : Zs} {r : Int32} (h : oc C M N T m g r C' M') (c : cR C0 C) (m' : mR M0 M) (e : C.1 13 2 = C0.1 13 2) : oc C0 M0 N T m g r C' M' := by
  obtain ⟨h1, h2, h3⟩ := h
  refine ⟨c.tr h1, m'.tr h2, ?_⟩
  rcases h3 with ⟨a, b, d⟩ | d
  · exact Or.inl ⟨a, b.trans e, d⟩
  · exact Or.inr d
/-- the class blames -/
theorem p3_blame (k : Int32) (h : C.1 13 4 = nI s) : ∃ C', f3_blame k C = some (0, C') ∧ cR C C' ∧ C'.1 13 2 = k ∧ C'.1 13 3 = nI s := by
  unfold f3_blame
  rw [ltt, ltt, zI_rd, if_neg (by decide), h]
  exact ⟨_, rfl, ⟨rfl, fun a e _ => by rw [zI_1n _ _ _ e, zI_1n _ _ _ e], by rw [zI_rd, if_neg (by decide), zI_rd, if_neg (by decide)]⟩, by rw [zI_rd, if_neg (by decide), zI_rd, if_pos ⟨rfl, rfl⟩], by rw [zI_rd, if_pos ⟨rfl, rfl⟩]⟩
theorem p7_bad (k : Int32) (h23 : M.1 0 23 = 0) (h : M.1 0 21 = nI s) : ∃ M', f7_bad k M = some M' ∧ mR M M' ∧ M'.1 0 23 = k ∧ M'.1 0 24 = nI s ∧ M'.1 0 11 = M.1 0 11 := by
  unfold f7_bad
  rw [h23, if_pos rfl, ltt, ltt, zI_rd, if_neg (by decide), h]
  exact ⟨_, rfl, (mR.z0 (by omega)).tr (mR.z0 (by omega)), by rw [zI_rd, if_neg (by decide), zI_rd, if_pos ⟨rfl, rfl⟩], by rw [zI_rd, if_pos ⟨rfl, rfl⟩], by rw [zI_rd, if_neg (by decide), zI_rd, if_neg (by decide)]⟩
theorem fl_mk {k : Nat} (h1 : 1 ≤ k) (h2 : k ≤ 3) (hs : s ≤ 400) (a : C.1 13 2 = nI k) (b : C.1 13 3 = nI s) (c : M.1 0 23 = nI k) (d : M.1 0 24 = nI s) : FL C M := ⟨k, s, h1, h2, hs, a, b, c, d⟩
/-! the reference once there is a fault: nothing more happens -/
section FA
variable {k : Nat}
theorem fa_ne (hk : 1 ≤ k) (hk3 : k ≤ 3) (h23 : M.1 0 23 = nI k) : ¬ M.1 0 23 = 0 := by rw [h23]; exact nI_ne0 hk (by omega)
theorem fa_isWord (hk : 1 ≤ k) (hk3 : k ≤ 3) (h23 : M.1 0 23 = nI k) (x : Int64) : f7_isWord M x = some 0 := by
  unfold f7_isWord
  rw [if_neg (fa_ne hk hk3 h23)]
theorem fa_must (hk : 1 ≤ k) (hk3 : k ≤ 3) (h23 : M.1 0 23 = nI k) (x : Int32) : f7_must x M = some M := by
  have n := fa_ne hk hk3 h23
  unfold f7_must f7_bad f7_must_9
  by_cases c : x = 0
  · rw [if_pos c, if_neg n, bd1s, if_neg n]
  · rw [if_neg c, if_neg n]
theorem fa_num (hk : 1 ≤ k) (hk3 : k ≤ 3) (h23 : M.1 0 23 = nI k) (x : Int32) : f7_numberTo x M = some (0, M) := by
  unfold f7_numberTo
  rw [h23, show (0 : Int32) = nI 0 from rfl, if_neg (nI_ge (by omega) (by omega))]
theorem fa_end (hk : 1 ≤ k) (hk3 : k ≤ 3) (h23 : M.1 0 23 = nI k) : f7_mustEnd M = some M := by
  unfold f7_mustEnd
  rw [if_neg (fa_ne hk hk3 h23)]
theorem fa_good24 (hk : 1 ≤ k) (hk3 : k ≤ 3) (h23 : M.1 0 23 = nI k) : f7_readGood_24 M = some M := by
  unfold f7_readGood_24 f7_readGood_69
  rw [fa_isWord hk hk3 h23, bd1s, fa_must hk hk3 h23, bd1s, fa_num hk hk3 h23, bd2s, if_neg (fa_ne hk hk3 h23), fa_end hk hk3 h23, bd1s]
theorem fa_land43 (hk : 1 ≤ k) (hk3 : k ≤ 3) (h23 : M.1 0 23 = nI k) (h11 : M.1 0 11 = nI g) (hg : g ≤ 6) (x : Int32) : ∀ n j, j ≤ g → g - j < n → f7_readLand_43 n x (nI j) M = some M := by
  intro n
  induction n with
  | zero => intro j _ h; omega
  | succ n ih =>
    intro j hj hn
    rw [f7_readLand_43]
    dsimp only
    rw [h11]
    by_cases e : g ≤ j
    · unfold f7_readLand_113
      rw [if_pos (nI_le e (by omega)), if_neg (fa_ne hk hk3 h23), fa_end hk hk3 h23, bd1s]
    · unfold f7_readLand_80
      rw [if_neg (nI_ge (by omega) (by omega)), fa_num hk hk3 h23, bd2s, if_neg (fa_ne hk hk3 h23), ltt, show nI j + 1 = nI (j + 1) from nI_1 _]
      exact ih (j + 1) (by omega) (by omega)
theorem fa_land23 (hk : 1 ≤ k) (hk3 : k ≤ 3) (h23 : M.1 0 23 = nI k) (h11 : M.1 0 11 = nI g) (hg : g ≤ 6) : f7_readLand_23 M = some M := by
  unfold f7_readLand_23
  rw [fa_isWord hk hk3 h23, bd1s, fa_must hk hk3 h23, bd1s, fa_num hk hk3 h23, bd2s]
  exact fa_land43 hk hk3 h23 h11 hg 0 fuel0 0 (by omega) (by unfold fuel0; omega)
end FA
/-! a number -/
theorem num_loop (ht : txt N T) (h : mt M T N s) (h3 : kM T N s = 3) (x : Int32) : ∀ r n k, s + k + r = tE T N s → r < n → f7_numberTo_16 n x (nI (dv T s k)) (nI (s + k)) M = f7_numberTo_53 x (nI (dv T s (tE T N s - s))) M := by
  have hN := ht.1
  obtain ⟨hs, h1, h21, h19, h22, h20, h23⟩ := h
  have el := tE_le (T := T) (N := N) (s := s) hs
  have c0 : s < N := by
    refine Classical.byContradiction (fun z => ?_)
    unfold kM at h3
    rw [if_neg z] at h3
    omega
  have c12 : ¬ isLt (T s) = true ∧ isFg (T s) = true ∧ tE T N s ≤ s + 2 := by
    unfold kM at h3
    rw [if_pos c0] at h3
    split at h3
    · omega
    · rename_i q
      split at h3
      · rename_i q2
        split at h3
        · rename_i q3
          exact ⟨q, q2, q3⟩
        · omega
      · split at h3 <;> omega
  obtain ⟨c1, c2, c3⟩ := c12
  have eE : tE T N s = rn isFg T (N - s) s := by unfold tE; rw [if_pos c0, if_neg c1, if_pos c2]
  have al : ∀ k, s ≤ k → k < tE T N s → isFg (T k) = true := fun k k1 k2 => rn_all (P := isFg) (T := T) (n := N - s) k1 (by rw [← eE]; exact k2)
  intro r
  induction r with
  | zero =>
    intro n k hk hn
    obtain ⟨n, rfl⟩ : ∃ k, n = k + 1 := ⟨n - 1, by omega⟩
    rw [f7_numberTo_16]
    dsimp only
    rw [h22, if_pos (nI_le (by omega) (by omega)), show tE T N s - s = k by omega]
  | succ r ih =>
    intro n k hk hn
    obtain ⟨n, rfl⟩ : ∃ k, n = k + 1 := ⟨n - 1, by omega⟩
    have f9 := fg9 (al (s + k) (by omega) (by omega))
    rw [f7_numberTo_16]
    dsimp only
    rw [h22, if_neg (nI_ge (by omega) (by omega)), h20, h3, if_pos (show nI 3 = (3 : Int32) from rfl), if_pos (inb_nI (by omega) (by decide)), nI_clamp (by omega), h1.2 _ (by omega), ltt, ltt, show (10 : Int32) = nI 10 from rfl, pk_mul, nI_add, show (48 : Int32) = nI 48 from rfl, pk_sub (by omega), show nI (s + k) + 1 = nI (s + (k + 1)) from nI_1 _, show 10 * dv T s k + T (s + k) - 48 = dv T s (k + 1) by show _ = dv T s k * 10 + (T (s + k) - 48); omega]
    exact ih n (k + 1) (by omega) (by omega)
theorem dv_tok (ht : txt N T) (hs : s ≤ N) (h3 : kC T N s = 3) : dv T s (tE T N s - s) ≤ 99 := by
  have el := tE_le (T := T) (N := N) (s := s) hs
  unfold kC at h3
  split at h3
  · rename_i c0
    split at h3
    · split at h3
      · omega
      · split at h3 <;> omega
    · rename_i c1
      split at h3
      · rename_i c2
        split at h3
        · rename_i c3
          have eE : tE T N s = rn isFg T (N - s) s := by unfold tE; rw [if_pos c0, if_neg c1, if_pos c2]
          exact dv_le (by omega) (fun i hi => rn_all (P := isFg) (T := T) (n := N - s) (p := s) (by omega) (by rw [← eE]; omega))
        · omega
      · split at h3 <;> omega
  · omega
/-- a number: there, and both go on; or both blame -/
theorem num_ok (ht : txt N T) (h : tk C M N T s) {w : Nat} (hw : w ≤ 99) : (∃ v, 1 ≤ v ∧ v ≤ w ∧ v ≤ 99 ∧ f3_isNumberUpTo (nI w) C = some (1, C) ∧ C.1 13 7 = nI v ∧ ∃ M', f7_next M = some M' ∧ f7_numberTo (nI w) M = some (nI v, M')) ∨ ∃ C' x M', f3_isNumberUpTo (nI w) C = some (0, C') ∧ f7_numberTo (nI w) M = some (x, M') ∧ cR C C' ∧ mR M M' ∧ FL C' M' ∧ M'.1 0 11 = M.1 0 11 := by
  have hN := ht.1
  have h' := h
  obtain ⟨h1, h2, h3, h4, h5, h6, h7, h8, h9, h10, h11, h12⟩ := h
  have kl := kC_le (T := T) (N := N) (s := s)
  have ml := kM_lt (T := T) (N := N) (s := s)
  unfold f3_isNumberUpTo f7_numberTo
  rw [h4, h12, if_pos (show (0 : Int32) ≤ 0 by decide), ltt, h8, show (3 : Int32) = nI 3 from rfl, iNeq (by omega) (by omega)]
  by_cases c : kC T N s = 3
  · have cm := k_3.mp c
    have d99 := dv_tok ht h6 c
    have lp := num_loop ht h'.2.2.2.2.2 cm (nI w) (tE T N s - s) fuel0 0 (by have := tE_le (T := T) (N := N) (s := s) h6; omega) (by have := tE_le (T := T) (N := N) (s := s) h6; unfold fuel0; omega)
    rw [show nI (dv T s 0) = (0 : Int32) from rfl, Nat.add_zero] at lp
    rw [if_pos c, h5 c, lp]
    generalize dv T s (tE T N s - s) = v at *
    unfold f7_numberTo_53 f7_numberTo_77 f7_numberTo_91 f7_must f7_must_9
    rw [h11, cm, if_pos (show nI 3 = (3 : Int32) from rfl), show (1 : Int64) = (1 : Int32).toInt64 from rfl, inI, show (1 : Int32) = nI 1 from rfl, iNlt (by omega) (by omega), iNle (by omega) (by omega), iNlt (by omega) (by omega), iNlt (by omega) (by omega)]
    by_cases c1 : v < 1
    · right
      obtain ⟨C', b1, b2, b3, b4⟩ := p3_blame 2 h2
      obtain ⟨M', d1, d2, d3, d4, d5⟩ := p7_bad 2 h12 h8
      have n23 : ¬ M'.1 0 23 = 0 := by rw [d3]; decide
      have e20 : M'.1 0 20 = nI 3 := by
        unfold f7_bad at d1
        rw [h12, if_pos rfl, ltt, ltt] at d1
        rw [← Option.some.inj d1, zI_rd, if_neg (by decide), zI_rd, if_neg (by decide), h11, cm]
      unfold f3_isNumberUpTo_30
      rw [if_pos c1, b1, bd2s, if_pos rfl, if_pos c1, if_pos rfl, d1, bd1s, e20, if_pos (show nI 3 = (3 : Int32) from rfl), if_neg (show ¬ nI 1 = 0 by decide), if_neg n23, bd1s]
      exact ⟨C', nI v, M', rfl, rfl, b2, d2, fl_mk (k := 2) (by omega) (by omega) (by omega) b3 b4 d3 d4, d5⟩
    · rw [if_neg c1, if_neg c1]
      by_cases c2 : v ≤ w
      · left
        obtain ⟨C', M', s', g1, g2, -⟩ := tk_go ht h'
        refine ⟨v, by omega, c2, d99, ?_, rfl, M', g2, ?_⟩
        · rw [if_pos c2]
        · rw [if_neg (show ¬ w < v by omega), if_neg (show ¬ nI 1 = 0 by decide), if_neg (show ¬ nI 1 = 0 by decide), h12, if_pos rfl, g2, bd1s, bd1s, if_pos (show nI 3 = (3 : Int32) from rfl)]
      · right
        obtain ⟨C', b1, b2, b3, b4⟩ := p3_blame 2 h2
        obtain ⟨M', d1, d2, d3, d4, d5⟩ := p7_bad 2 h12 h8
        have n23 : ¬ M'.1 0 23 = 0 := by rw [d3]; decide
        have e20 : M'.1 0 20 = nI 3 := by
          unfold f7_bad at d1
          rw [h12, if_pos rfl, ltt, ltt] at d1
          rw [← Option.some.inj d1, zI_rd, if_neg (by decide), zI_rd, if_neg (by decide), h11, cm]
        unfold f3_isNumberUpTo_30
        rw [if_neg c2, b1, bd2s, if_pos rfl, if_pos (show w < v by omega), if_pos rfl, d1, bd1s, e20, if_pos (show nI 3 = (3 : Int32) from rfl), if_neg (show ¬ nI 1 = 0 by decide), if_neg n23, bd1s]
        exact ⟨C', nI v, M', rfl, rfl, b2, d2, fl_mk (k := 2) (by omega) (by omega) (by omega) b3 b4 d3 d4, d5⟩
  · right
    have cm : ¬ kM T N s = 3 := fun z => c (k_3.mpr z)
    have n20 : ¬ M.1 0 20 = 3 := by
      rw [h11]
      exact fun z => cm ((nI_eq (by omega) (by decide)).mp z)
    obtain ⟨C', b1, b2, b3, b4⟩ := p3_blame 1 h2
    obtain ⟨M', d1, d2, d3, d4, d5⟩ := p7_bad 1 h12 h8
    have n23 : ¬ M'.1 0 23 = 0 := by rw [d3]; decide
    have e53 : f7_numberTo_53 (nI w) 0 M = some (0, M') := by
      unfold f7_numberTo_53 f7_numberTo_77 f7_numberTo_91 f7_must f7_must_9
      rw [if_neg n20, if_neg n20, if_pos rfl, d1, bd1s, if_neg n23, bd1s]
    have e16 : f7_numberTo_16 fuel0 (nI w) 0 (nI s) M = some (0, M') := by
      rw [show fuel0 = 999 + 1 from rfl, f7_numberTo_16]
      dsimp only
      rw [if_neg n20, e53]
      split <;> rfl
    rw [if_neg c, b1, bd2s, e16]
    exact ⟨C', 0, M', rfl, rfl, b2, d2, fl_mk (k := 1) (by omega) (by omega) (by omega) b3 b4 d3 d4, d5⟩
/-- the semicolon -/
theorem semi (ht : txt N T) (h : tk C M N T s) (d : drf C M m g) : ∃ r C' M', f3_passSemicolon C = some (r, C') ∧ f7_mustEnd M = some M' ∧ oc C M N T m g r C' M' := by
  have hN := ht.1
  have h' := h
  obtain ⟨h1, h2, h3, h4, h5, h6, h7, h8, h9, h10, h11, h12⟩ := h
  have kl := kC_le (T := T) (N := N) (s := s)
  have ml := kM_lt (T := T) (N := N) (s := s)
  unfold f3_passSemicolon f7_mustEnd f7_mustEnd_21 f7_must f7_must_9
  rw [h4, h12, if_pos rfl, h11, show (4 : Int32) = nI 4 from rfl, iNeq (by omega) (by omega), iNeq (by omega) (by omega)]
  by_cases c : kC T N s = 4
  · obtain ⟨C', M', s', g1, g2, g3, g4, g5⟩ := tk_go ht h'
    rw [if_pos c, if_pos (k_4.mp c), g1, bd1s, if_neg i10, if_pos rfl, g2, bd1s, bd1s]
    exact ⟨1, C', M', rfl, rfl, g3.R, g4.R, Or.inl ⟨rfl, g3.2.2 2 (by omega), ⟨s', g5⟩, drf_4 d g3 g4⟩⟩
  · obtain ⟨C', b1, b2, b3, b4⟩ := p3_blame 1 h2
    obtain ⟨M', d1, d2, d3, d4, d5⟩ := p7_bad 1 h12 h8
    have n23 : ¬ M'.1 0 23 = 0 := by rw [d3]; decide
    rw [if_neg c, if_neg (fun z => c (k_4.mpr z)), b1, bd2s, if_pos rfl, d1, bd1s, if_neg n23, bd1s]
    exact ⟨0, C', M', rfl, rfl, b2, d2, Or.inr ⟨rfl, fl_mk (k := 1) (by omega) (by omega) (by omega) b3 b4 d3 d4⟩⟩
end GR
