/-! chain -/
section CH
variable {C M S S' : Zs} {m g : Nat} {A : Nat → Nat → Nat} {H Sh W : Nat → Nat} {f s od : Nat → Nat}
/-- how many of the first n stand ahead of y -/
def cnA (f s : Nat → Nat) (y n : Nat) : Nat := ns n (fun x => if x ≠ y ∧ (f x * s y < f y * s x ∨ (f x * s y = f y * s x ∧ x < y)) then 1 else 0)
theorem ns_k (k : Nat) : ns k (fun _ => 1) = k := by
  induction k with
  | zero => rfl
  | succ k ih =>
    show ns k (fun _ => 1) + 1 = k + 1
    rw [ih]
theorem ns_z {n : Nat} {F : Nat → Nat} (h : ∀ i, i < n → F i = 0) : ns n F = 0 := by
  have := ns_le (b := 0) (f := F) (n := n) (fun i hi => Nat.le_of_eq (h i hi))
  omega
theorem cnA_at (h : srt g f s od) {j : Nat} (hj : j < g) : cnA f s (od j) g = j := by
  obtain ⟨h1, h2, h3⟩ := h
  unfold cnA
  rw [← h3]
  have e : ns g (fun i => if i < j then 1 else 0) = j := by
    have := ns_pre (k := j) (n := g) (f := fun _ => 1) (by omega)
    rw [ns_k] at this
    exact this
  refine Eq.trans (ns_congr (fun i hi => ?_)) e
  rcases Nat.lt_trichotomy i j with c | c | c
  · have a := h2 i j c hj
    unfold ahd at a
    have ne : od i ≠ od j := fun z => by
      rw [z] at a
      omega
    exact (if_pos ⟨ne, a⟩).trans (if_pos c).symm
  · exact (if_neg (fun z => z.1 (by rw [c]))).trans (if_neg (by omega)).symm
  · have a := h2 j i c hi
    unfold ahd at a
    exact (if_neg (fun z => by have := z.2; omega)).trans (if_neg (by omega)).symm
theorem srt_on (h : srt g f s od) {y : Nat} (hy : y < g) : ∃ j, j < g ∧ od j = y := by
  refine Classical.byContradiction (fun k => ?_)
  have e := h.2.2 (fun x => if x = y then 1 else 0)
  rw [ns_z (F := fun i => (fun x => if x = y then 1 else 0) (od i)) (fun i hi => if_neg (fun z => k ⟨i, hi, z⟩)), ns_one (F := fun x => if x = y then 1 else 0) hy (fun l hl n => if_neg n)] at e
  rw [if_pos rfl] at e
  exact absurd e (by decide)
theorem p7_isAhead (D : dat m g A H Sh) (mw : mW M m g A H Sh) {a b x y : Nat} (ha : a < m) (hb : b < m) (hx : x < g) (hy : y < g) : f7_isAhead M (nI a) (nI b) (nI x) (nI y) = some (if A a x * A b y < A a y * A b x ∨ (A a x * A b y = A a y * A b x ∧ x < y) then 1 else 0) := by
  have d1 := D.1
  have d2 := D.2.1
  have b1 := mulb D ha hb hx hy
  have b2 := mulb D ha hb hy hx
  unfold f7_isAhead
  rw [ix6, ix6, ix6, ix6, if_pos (inb_nI (by omega) (by decide)), if_pos (inb_nI (by omega) (by decide)), nI_clamp (show 6 * a + x < 2 ^ 31 by omega), nI_clamp (show 6 * b + y < 2 ^ 31 by omega), nI_clamp (show 6 * a + y < 2 ^ 31 by omega), nI_clamp (show 6 * b + x < 2 ^ 31 by omega), mw.2.2.2.2 a x ha hx, mw.2.2.2.2 b y hb hy, mw.2.2.2.2 a y ha hy, mw.2.2.2.2 b x hb hx, ltt, ltt, if_pos (inb_nI (by omega) (by decide)), if_pos (inb_nI (by omega) (by decide)), pk_mul, pk_mul, iNlt (by omega) (by omega), iNeq (by omega) (by omega), iNle (by omega) (by omega)]
  by_cases c1 : A a x * A b y < A a y * A b x
  · rw [if_pos c1, if_pos (Or.inl c1)]
  · rw [if_neg c1]
    by_cases c2 : A a x * A b y = A a y * A b x
    · rw [if_pos c2]
      by_cases c3 : y ≤ x
      · rw [if_pos c3, if_neg (by omega)]
      · rw [if_neg c3, if_pos (Or.inr ⟨c2, by omega⟩)]
    · rw [if_neg c2, if_neg (by omega)]
theorem p7_ch159 (D : dat m g A H Sh) (mw : mW M m g A H Sh) {a b y : Nat} (ha : a < m) (hb : b < m) (hy : y < g) (x3 : Int32) (k : Int32 → Int32 → Int32 → Int32 → Zs → Option (Int64 × Zs)) : ∀ n j, j ≤ g → g - j < n → f7_chain_159 k n (nI a) (nI b) x3 (nI y) (nI (cnA (fun q => A a q) (fun q => A b q) y j)) (nI j) M = if nI (cnA (fun q => A a q) (fun q => A b q) y g) = x3 then some ((nI y).toInt64, M) else k (nI a) (nI b) x3 (nI (y + 1)) M := by
  have d2 := D.2.1
  intro n
  induction n with
  | zero => intro j _ h; omega
  | succ n ih =>
    intro j hj hn
    rw [f7_chain_159]
    dsimp only
    rw [mw.2.1]
    by_cases e : g ≤ j
    · rw [if_pos (nI_le e (by omega)), show j = g by omega, ltt, show nI y + 1 = nI (y + 1) from nI_1 _]
    have ih' := ih (j + 1) (by omega) (by omega)
    rw [if_neg (nI_ge (by omega) (by omega)), iNeq (by omega) (by omega)]
    unfold f7_chain_194 f7_chain_195
    have st : cnA (fun q => A a q) (fun q => A b q) y (j + 1) = cnA (fun q => A a q) (fun q => A b q) y j + (if j ≠ y ∧ (A a j * A b y < A a y * A b j ∨ (A a j * A b y = A a y * A b j ∧ j < y)) then 1 else 0) := rfl
    rw [st] at ih'
    have e0 : ∀ x, nI x + (0 : Int32) = nI (x + 0) := fun x => nI_add x 0
    have e1 : ∀ x, nI x + (1 : Int32) = nI (x + 1) := fun x => nI_1 x
    by_cases c : j = y
    · rw [if_neg (fun z => z.1 c)] at ih'
      rw [if_pos c, ltt, ltt, e0, e1]
      exact ih'
    · rw [if_neg c, p7_isAhead D mw ha hb (by omega) hy, bd1s]
      by_cases c2 : A a j * A b y < A a y * A b j ∨ (A a j * A b y = A a y * A b j ∧ j < y)
      · rw [if_pos ⟨c, c2⟩] at ih'
        rw [if_pos c2, if_neg i10, ltt, ltt, e1, e1]
        exact ih'
      · rw [if_neg (fun z => c2 z.2)] at ih'
        rw [if_neg c2, if_pos rfl, ltt, ltt, e0, e1]
        exact ih'
theorem cnA_le {y n : Nat} : cnA f s y n ≤ n := by
  have : cnA f s y n ≤ n * 1 := ns_le (fun i hi => by split <;> omega)
  omega
theorem p7_ch144 (D : dat m g A H Sh) (mw : mW M m g A H Sh) {a b : Nat} (ha : a < m) (hb : b < m) (h : srt g (fun q => A a q) (fun q => A b q) od) {i : Nat} (hi : i < 2 ^ 31) : ∀ n y, y ≤ g → g - y < n → (∀ j, i = j → j < g → y ≤ od j) → f7_chain_144 n (nI a) (nI b) (nI i) (nI y) M = some (if i < g then (nI (od i)).toInt64 else (-1000000 : Int64), M) := by
  have d2 := D.2.1
  intro n
  induction n with
  | zero => intro y _ hh; omega
  | succ n ih =>
    intro y hy hn hl
    rw [f7_chain_144]
    dsimp only
    rw [mw.2.1]
    by_cases e : g ≤ y
    · rw [if_pos (nI_le e (by omega))]
      by_cases c : i < g
      · have b1 := h.1 i c
        have b2 := hl i rfl c
        omega
      · rw [if_neg c]
    rw [if_neg (nI_ge (by omega) (by omega))]
    obtain ⟨j, hj, ej⟩ := srt_on h (y := y) (by omega)
    have key := p7_ch159 D mw ha hb (y := y) (by omega) (nI i) (f7_chain_144 n) fuel0 0 (by omega) (by unfold fuel0; omega)
    have c0 := cnA_at h hj
    rw [ej] at c0
    rw [c0, iNeq (by omega) hi] at key
    rw [show (0 : Int32) = nI 0 from rfl]
    refine Eq.trans key ?_
    by_cases c : j = i
    · subst c
      rw [if_pos rfl, if_pos hj, ej]
    · rw [if_neg c]
      refine ih (y + 1) (by omega) (by omega) (fun x hx1 hx2 => ?_)
      have := hl x hx1 hx2
      by_cases z : od x = y
      · have c1 := cnA_at h hx2
        rw [z] at c1
        omega
      · omega
/-! the cut -/
theorem prest_sw {h1 h2 w1 w2 : Nat} (h : prest g f s Sh h1 h2 w1 w2) : prest g s f Sh h2 h1 w2 w1 := by
  obtain ⟨a, b, c, d⟩ := h
  refine ⟨b, a, ?_, ?_⟩
  · rw [Nat.add_comm (h2 * w2)]; exact d
  · rw [Nat.add_comm (h2 * w2)]; exact c
theorem bit3 : ∀ x, x < 8 → ∀ y, y < 8 → x.testBit 0 = y.testBit 0 → x.testBit 1 = y.testBit 1 → x.testBit 2 = y.testBit 2 → x = y := by decide +kernel
theorem set2 : ∀ a, a < 3 → ∀ b, b < 3 → a ≠ b → ((1 : Int32) <<< (nI a &&& 31)) ||| ((1 : Int32) <<< (nI b &&& 31)) = nI (2 ^ a + 2 ^ b) := by decide +kernel
theorem set1 : ∀ a, a < 3 → ((1 : Int32) <<< (nI a &&& 31)) = nI (2 ^ a) := by decide +kernel
theorem two8 : ∀ a, a < 3 → ∀ b, b < 3 → a ≠ b → 2 ^ a + 2 ^ b < 8 := by decide +kernel
theorem tb2 : ∀ a, a < 3 → ∀ b, b < 3 → a ≠ b → ∀ l, l < 3 → ((2 ^ a + 2 ^ b).testBit l = true ↔ l = a ∨ l = b) := by decide +kernel
theorem tb1 : ∀ a, a < 3 → ∀ l, l < 3 → ((2 ^ a).testBit l = true ↔ l = a) := by decide +kernel
theorem p8' : ∀ a, a < 3 → 2 ^ a < 8 := by decide +kernel
theorem btt {x y : Bool} (h : x = true ↔ y = true) : x = y := by cases x <;> cases y <;> simp_all
theorem bit3' {x y : Nat} (hx : x < 8) (hy : y < 8) (h : ∀ l, l < 3 → (x.testBit l = true ↔ y.testBit l = true)) : x = y :=
  bit3 x hx y hy (btt (h 0 (by omega))) (btt (h 1 (by omega))) (btt (h 2 (by omega)))
theorem mk2 (hm : m ≤ 3) {R : Nat → Nat} {a b q : Nat} (ha : a < m) (hb : b < m) (n : a ≠ b) : (mkT m A R (2 ^ a + 2 ^ b) q = 2 ^ a ↔ R a * A a q < R b * A b q) ∧ (mkT m A R (2 ^ a + 2 ^ b) q = 2 ^ a + 2 ^ b ↔ R a * A a q = R b * A b q) := by
  have lt := mkT_lt hm (A := A) (W := R) (t := 2 ^ a + 2 ^ b) (q := q)
  have t8 := two8 a (by omega) b (by omega) n
  have q8 := p8' a (by omega)
  have bt : ∀ l, (mkT m A R (2 ^ a + 2 ^ b) q).testBit l = true ↔ (l = a ∧ R a * A a q ≤ R b * A b q) ∨ (l = b ∧ R b * A b q ≤ R a * A a q) := by
    intro l
    rw [mkT_bit]
    constructor
    · rintro ⟨h1, h2, h3⟩
      rw [tb2 a (by omega) b (by omega) n l (by omega)] at h2
      rcases h2 with rfl | rfl
      · exact Or.inl ⟨rfl, h3 b hb ((tb2 l (by omega) b (by omega) n b (by omega)).mpr (Or.inr rfl))⟩
      · exact Or.inr ⟨rfl, h3 a ha ((tb2 a (by omega) l (by omega) n a (by omega)).mpr (Or.inl rfl))⟩
    · rintro (⟨rfl, h⟩ | ⟨rfl, h⟩)
      · refine ⟨ha, (tb2 l (by omega) b (by omega) n l (by omega)).mpr (Or.inl rfl), fun k hk tk => ?_⟩
        rcases (tb2 l (by omega) b (by omega) n k (by omega)).mp tk with rfl | rfl
        · exact Nat.le_refl _
        · exact h
      · refine ⟨hb, (tb2 a (by omega) l (by omega) n l (by omega)).mpr (Or.inr rfl), fun k hk tk => ?_⟩
        rcases (tb2 a (by omega) l (by omega) n k (by omega)).mp tk with rfl | rfl
        · exact h
        · exact Nat.le_refl _
  constructor
  · constructor
    · intro e
      have nb : ¬ (mkT m A R (2 ^ a + 2 ^ b) q).testBit b = true := by
        rw [e, tb1 a (by omega) b (by omega)]
        exact fun z => n z.symm
      rw [bt b] at nb
      omega
    · intro h
      refine bit3' lt q8 (fun l hl => ?_)
      rw [bt l, tb1 a (by omega) l hl]
      omega
  · constructor
    · intro e
      have b1 : (mkT m A R (2 ^ a + 2 ^ b) q).testBit b = true := by
        rw [e, tb2 a (by omega) b (by omega) n b (by omega)]
        exact Or.inr rfl
      have b2 : (mkT m A R (2 ^ a + 2 ^ b) q).testBit a = true := by
        rw [e, tb2 a (by omega) b (by omega) n a (by omega)]
        exact Or.inl rfl
      rw [bt b] at b1
      rw [bt a] at b2
      omega
    · intro h
      refine bit3' lt t8 (fun l hl => ?_)
      rw [bt l, tb2 a (by omega) b (by omega) n l hl]
      omega
theorem p7_ch64 (D : dat m g A H Sh) (mw : mW M m g A H Sh) {R : Nat → Nat} (G : cG M 11 3 R) {a b : Nat} (ha : a < m) (hb : b < m) (n0 : a ≠ b) : ∀ n j, j ≤ g → g - j < n → f7_chain_64 n (nI a) (nI (2 ^ a + 2 ^ b)) (nI (ns j (fun q => if R a * A a q < R b * A b q then 1 else 0))) (nI (ns j (fun q => if R a * A a q = R b * A b q then 1 else 0))) (nI j) M = some ((nI (2 * ns g (fun q => if R a * A a q < R b * A b q then 1 else 0) + (if ns g (fun q => if R a * A a q = R b * A b q then 1 else 0) ≤ 0 then 0 else 1))).toInt64, M) := by
  have d1 := D.1
  have d2 := D.2.1
  have t8 := two8 a (by omega) b (by omega) n0
  have q8 := p8' a (by omega)
  have sb : ∀ (B : Nat → Prop) [∀ q, Decidable (B q)] (j : Nat), ns j (fun q => if B q then 1 else 0) ≤ j := by
    intro B _ j
    have : ns j (fun q => if B q then 1 else 0) ≤ j * 1 := ns_le (fun i hi => by split <;> omega)
    omega
  intro n
  induction n with
  | zero => intro j _ h; omega
  | succ n ih =>
    intro j hj hn
    rw [f7_chain_64]
    dsimp only
    rw [mw.2.1]
    by_cases e : g ≤ j
    · have b1 := sb (fun q => R a * A a q = R b * A b q) g
      rw [if_pos (nI_le e (by omega)), show j = g by omega, show (0 : Int32) = nI 0 from rfl, show (2 : Int32) = nI 2 from rfl, show (1 : Int32) = nI 1 from rfl, pk_mul, nI_add, nI_add, iNle (by omega) (by omega)]
      by_cases c : ns g (fun q => if R a * A a q = R b * A b q then 1 else 0) ≤ 0
      · rw [if_pos c, if_pos c]
      · rw [if_neg c, if_neg c]
    have hq : j < g := by omega
    have ih' := ih (j + 1) (by omega) (by omega)
    have s1 : ∀ F : Nat → Nat, ns (j + 1) F = ns j F + F j := fun _ => rfl
    rw [s1, s1] at ih'
    have lt := mkT_lt d1.2 (A := A) (W := R) (t := 2 ^ a + 2 ^ b) (q := j)
    have k := mk2 d1.2 (A := A) (R := R) (q := j) ha hb n0
    rw [if_neg (nI_ge hq (by omega)), p7_makersOf D mw (fun l hl => G l (by omega)) t8 hq, bd1s, set1 a (by omega), iNeq (by omega) (by omega)]
    have e0 : ∀ x, nI x + (0 : Int32) = nI (x + 0) := fun x => nI_add x 0
    have e1 : ∀ x, nI x + (1 : Int32) = nI (x + 1) := fun x => nI_1 x
    unfold f7_chain_98 f7_chain_115
    by_cases c1 : mkT m A R (2 ^ a + 2 ^ b) j = 2 ^ a
    · have l1 := k.1.mp c1
      have c2 : ¬ mkT m A R (2 ^ a + 2 ^ b) j = 2 ^ a + 2 ^ b := fun z => by have := k.2.mp z; omega
      rw [if_pos l1, if_neg (show ¬ R a * A a j = R b * A b j by omega)] at ih'
      rw [if_pos c1, ltt, iNeq (by omega) (by omega), if_neg c2, ltt, ltt, e1, e0, e1]
      exact ih'
    · have l1 : ¬ R a * A a j < R b * A b j := fun z => c1 (k.1.mpr z)
      rw [if_neg l1] at ih'
      rw [if_neg c1, ltt, iNeq (by omega) (by omega)]
      by_cases c2 : mkT m A R (2 ^ a + 2 ^ b) j = 2 ^ a + 2 ^ b
      · rw [if_pos (k.2.mp c2)] at ih'
        rw [if_pos c2, ltt, ltt, e0, e1, e1]
        exact ih'
      · rw [if_neg (fun z => c2 (k.2.mpr z))] at ih'
        rw [if_neg c2, ltt, ltt, e0, e0, e1]
        exact ih'
theorem p7_rest2' (D : dat m g A H Sh) (mw : mW M m g A H Sh) {a b : Nat} (ha : a < m) (hb : b < m) (n0 : a ≠ b) {w1 w2 : Nat} (h : prest g (fun q => A a q) (fun q => A b q) Sh (H a) (H b) w1 w2) : ∃ S' R, f7_rest (nI (2 ^ a + 2 ^ b)) M = some S' ∧ mfr M S' ∧ cG S' 11 3 R ∧ prest g (fun q => A a q) (fun q => A b q) Sh (H a) (H b) (R a) (R b) := by
  have d1 := D.1
  have pe : ∀ a b, a < b → b < 3 → ∃ c, perm3 a b c := by
    intro a b h1 h2
    rcases (show (a = 0 ∧ b = 1) ∨ (a = 0 ∧ b = 2) ∨ (a = 1 ∧ b = 2) by omega) with ⟨rfl, rfl⟩ | ⟨rfl, rfl⟩ | ⟨rfl, rfl⟩
    · exact ⟨2, Or.inl ⟨rfl, rfl, rfl⟩⟩
    · exact ⟨1, Or.inr (Or.inl ⟨rfl, rfl, rfl⟩)⟩
    · exact ⟨0, Or.inr (Or.inr ⟨rfl, rfl, rfl⟩)⟩
  rcases Nat.lt_or_gt_of_ne n0 with c | c
  · obtain ⟨x, p⟩ := pe a b c (by omega)
    have w : two m a b := ⟨d1.2, c, hb⟩
    obtain ⟨S', R, r1, r2, r3, r4⟩ := p7_rest2 D mw p w h
    exact ⟨S', R, r1, r2, r3, ((gd_two w).mp r4).2⟩
  · obtain ⟨x, p⟩ := pe b a c (by omega)
    have w : two m b a := ⟨d1.2, c, ha⟩
    obtain ⟨S', R, r1, r2, r3, r4⟩ := p7_rest2 D mw p w (prest_sw h)
    exact ⟨S', R, by rw [Nat.add_comm]; exact r1, r2, r3, prest_sw ((gd_two w).mp r4).2⟩
theorem s_chain (h : II C M) (x1 x2 x3 : Int32) : ∃ (r : Int64) (C' M' : Zs), (f6_chain x1 x2 x3 C = some (r, C')) ∧ (f7_chain x1 x2 x3 M = some (r, M')) ∧ II C' M' := by
  have h2 := II_t0 h
  unfold f7_chain f6_chain
  rw [ltt]
  generalize zI M 0 0 0 = M2 at h2 ⊢
  rcases h2.2.2.1 with v | ⟨m, g, A, H, Sh, W, v⟩
  · obtain ⟨e1, e2⟩ := gN_land v x1
    rw [e1, e2, if_pos rfl, if_pos rfl]
    exact ⟨_, C, M2, rfl, rfl, h2⟩
  rcases gV_land v x1 with ⟨e1, e2⟩ | ⟨a, ha, rfl, e1, e2⟩
  · rw [e1, e2, if_pos rfl, if_pos rfl]
    exact ⟨_, C, M2, rfl, rfl, h2⟩
  rw [e1, e2, if_neg i10, if_neg i10]
  rcases gV_land v x2 with ⟨e1, e2⟩ | ⟨b, hb, rfl, e1, e2⟩
  · rw [e1, e2, if_pos rfl, if_pos rfl]
    exact ⟨_, C, M2, rfl, rfl, h2⟩
  rw [e1, e2, if_neg i10, if_neg i10]
  obtain ⟨D, c37, g44, rW, mw, mk, ih⟩ := v
  have d1 := D.1
  have d2 := D.2.1
  rw [iNeq (by omega) (by omega), iNeq (by omega) (by omega)]
  by_cases c1 : a = b
  · rw [if_pos c1, if_pos c1]
    exact ⟨_, C, M2, rfl, rfl, h2⟩
  rw [if_neg c1, if_neg c1]
  by_cases c2 : (-1 : Int32) ≤ x3
  · rw [if_pos c2, if_pos c2, c37.2.1]
    obtain ⟨S1, l1, l2, P1⟩ := p0_layTwo (o := 32) (q1 := 37) D c37 (by omega) (a := a) (b := b) ha hb
    obtain ⟨S2, od, s1, s2, s3, sr⟩ := p0_sort P1
    have P2 := pD_but P1 s2 (by omega) (by omega)
    have o2 : out C S2 32 37 := l2.tr (out.of_but s2 (by omega))
    by_cases c3 : x3 = -1
    · obtain ⟨w1, w2, t1, t2, t3, t4⟩ := p0_settleTwo P2 s3 sr
      obtain ⟨M', R, r1, r2, r3, r4⟩ := p7_rest2' D mw ha hb c1 t2
      rw [if_pos (show x3 < nI g by rw [c3, Int32.lt_iff_toInt_lt, nI_toInt (by omega), show (-1 : Int32).toInt = -1 by decide]; omega), l1, bd1s, s1, bd1s, if_pos (show x3 < 0 by rw [c3]; decide), t1, bd1s, if_pos c3, set2 a (by omega) b (by omega) c1, ltt, r1, bd1s]
      have PC : pD (zL (zL S2 32 7 (lN w1)) 32 8 (lN w2)) 32 g (fun q => A a q) (fun q => A b q) Sh (H a) (H b) := by
        obtain ⟨p1, p2, p3, p4, p5, p6, p7⟩ := P2
        refine ⟨p1, p2, p3, fun q hq => ?_, fun q hq => ?_, ?_, ?_⟩
        · rw [zL_2n _ _ _ (by decide), zL_2n _ _ _ (by decide)]; exact p4 q hq
        · rw [zL_2n _ _ _ (by decide), zL_2n _ _ _ (by decide)]; exact p5 q hq
        · rw [zL_rd, if_neg (by decide), zL_rd, if_neg (by decide)]; exact p6
        · rw [zL_rd, if_neg (by decide), zL_rd, if_neg (by decide)]; exact p7
      rw [p0_cut PC (w1 := w1) (w2 := w2) (by rw [zL_rd, if_neg (by decide), zL_rd, if_pos ⟨rfl, rfl⟩]) (by rw [zL_rd, if_pos ⟨rfl, rfl⟩]) (by omega) (by omega), bd1s]
      have eM := p7_ch64 D (mW_fr mw r2) r3 ha hb c1 fuel0 0 (by omega) (by unfold fuel0; omega)
      rw [show (0 : Int32) = nI 0 from rfl]
      rw [show nI (ns 0 (fun q => if R a * A a q < R b * A b q then 1 else 0)) = nI 0 from rfl, show nI (ns 0 (fun q => if R a * A a q = R b * A b q then 1 else 0)) = nI 0 from rfl] at eM
      rw [eM]
      have pp := prest_one d2 (fun q hq => D.2.2.2.2 a q ha hq) (fun q hq => D.2.2.2.2 b q hb hq) D.2.2.2.1 (D.2.2.1 a ha) (D.2.2.1 b hb) t2 r4
      have cmp : ∀ q, (A a q * w1 < A b q * w2 ↔ R a * A a q < R b * A b q) ∧ (A a q * w1 = A b q * w2 ↔ R a * A a q = R b * A b q) := by
        intro q
        have pw2 := t2.2.1
        have pR := r4.2.1
        have k1 : w2 * (R a * A a q) = R b * (A a q * w1) := by
          rw [← Nat.mul_assoc, Nat.mul_comm w2, pp]
          grind
        have k2 : w2 * (R b * A b q) = R b * (A b q * w2) := by grind
        generalize A a q * w1 = u at *
        generalize A b q * w2 = z at *
        generalize R a * A a q = u' at *
        generalize R b * A b q = z' at *
        refine ⟨⟨fun y => ?_, fun y => ?_⟩, ⟨fun y => ?_, fun y => ?_⟩⟩
        · have := Nat.mul_lt_mul_of_pos_left y pR
          rw [← k1, ← k2] at this
          exact Nat.lt_of_mul_lt_mul_left this
        · have := Nat.mul_lt_mul_of_pos_left y pw2
          rw [k1, k2] at this
          exact Nat.lt_of_mul_lt_mul_left this
        · rw [y, ← k2] at k1
          exact Nat.eq_of_mul_eq_mul_left pw2 k1
        · rw [y, k2] at k1
          exact (Nat.eq_of_mul_eq_mul_left pR k1).symm
      have ea : ns g (fun q => if A a q * w1 < A b q * w2 then 1 else 0) = ns g (fun q => if R a * A a q < R b * A b q then 1 else 0) := ns_congr (fun q hq => by
        by_cases y : A a q * w1 < A b q * w2
        · rw [if_pos y, if_pos ((cmp q).1.mp y)]
        · rw [if_neg y, if_neg (fun k => y ((cmp q).1.mpr k))])
      have eb : (if ∃ q, q < g ∧ A a q * w1 = A b q * w2 then 1 else 0) = (if ns g (fun q => if R a * A a q = R b * A b q then 1 else 0) ≤ 0 then 0 else 1) := by
        by_cases y : ∃ q, q < g ∧ A a q * w1 = A b q * w2
        · rw [if_pos y, if_neg]
          obtain ⟨q, hq, eq⟩ := y
          intro z
          have z2 : ns g (fun x => if x = q then 1 else 0) ≤ ns g (fun q => if R a * A a q = R b * A b q then 1 else 0) := ns_mono (fun i hi => by
            by_cases c : i = q
            · rw [if_pos c, c, if_pos ((cmp q).2.mp eq)]; exact Nat.le_refl 1
            · rw [if_neg c]; exact Nat.zero_le _)
          rw [ns_one (F := fun x => if x = q then 1 else 0) hq (fun l hl n => if_neg n), if_pos rfl] at z2
          omega
        · rw [if_neg y, if_pos]
          rw [ns_z (fun i hi => if_neg (fun k => y ⟨i, hi, (cmp i).2.mpr k⟩))]
          exact Nat.le_refl 0
      rw [ea, eb]
      refine ⟨_, _, _, rfl, rfl, II_st (II_cst h2 ?_) r2.st⟩
      exact ⟨fun x e => (o2 x (by omega)).1, by rw [zL_2n _ _ _ (by decide), zL_2n _ _ _ (by decide)]; exact (o2 44 (by omega)).2, by rw [zL_2n _ _ _ (by decide), zL_2n _ _ _ (by decide)]; exact (o2 53 (by omega)).2⟩
    · have c0 : ¬ x3 < 0 := by
        intro z
        rw [Int32.le_iff_toInt_le, show (-1 : Int32).toInt = -1 by decide] at c2
        rw [Int32.lt_iff_toInt_lt, z32] at z
        exact c3 (Int32.toInt_inj.mp (by rw [show (-1 : Int32).toInt = -1 by decide]; omega))
      obtain ⟨i, hi, rfl⟩ := nI_of c0
      rw [if_neg c3, iNlt hi (by omega)]
      have eM := p7_ch144 D mw ha hb sr hi fuel0 0 (by omega) (by unfold fuel0; omega) (fun _ _ _ => Nat.zero_le _)
      rw [show (0 : Int32) = nI 0 from rfl, eM]
      by_cases c4 : i < g
      · rw [if_pos c4, if_pos c4, l1, bd1s, s1, bd1s, if_neg (show ¬ nI i < nI 0 from nI_pos hi), if_pos (inb_nI (by omega) (by decide)), nI_clamp hi, s3 i c4]
        exact ⟨_, _, _, rfl, rfl, II_cst h2 ⟨fun x e => (o2 x (by omega)).1, (o2 44 (by omega)).2, (o2 53 (by omega)).2⟩⟩
      · rw [if_neg c4, if_neg c4]
        exact ⟨_, C, M2, rfl, rfl, h2⟩
  · rw [if_neg c2, if_neg c2]
    exact ⟨_, C, M2, rfl, rfl, h2⟩
end CH
