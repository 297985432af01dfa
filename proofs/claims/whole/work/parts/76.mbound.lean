/-! the reference's rows that are tried: bound by goods -/
/-- what a search answers: a rest was found, or no row of Q is one -/
def fnd (m g : Nat) (A : Nat → Nat → Nat) (H Sh : Nat → Nat) (t : Nat) (S : Zs) (x : Option (Int32 × Zs)) (Q : (Nat → Nat) → Prop) : Prop := ∃ r S', x = some (r, S') ∧ mfr S S' ∧ ((r = 1 ∧ ∃ R, cG S' 11 3 R ∧ gd m g A H Sh t R) ∨ (r = 0 ∧ ∀ R, Q R → ¬ gd m g A H Sh t R))
theorem gd_congr {m g : Nat} {A : Nat → Nat → Nat} {H Sh : Nat → Nat} {t : Nat} {R R' : Nat → Nat} (hm : m ≤ 3) (e : ∀ l, l < 3 → R l = R' l) : gd m g A H Sh t R ↔ gd m g A H Sh t R' := by
  have one : ∀ {R R' : Nat → Nat}, (∀ l, l < 3 → R l = R' l) → gd m g A H Sh t R → gd m g A H Sh t R' := by
    intro R R' e h
    refine ⟨fun l hl => by rw [← e l hl]; exact h.1 l hl, fun u u1 u2 u3 => ?_⟩
    have k := h.2 u u1 u2 u3
    unfold okS at k ⊢
    have i1 : ∀ v, incN m H R' v = incN m H R v := fun v => ns_congr (fun l hl => by rw [e l (by omega)])
    have i2 : gtsN g (mkT m A R' t) Sh u = gtsN g (mkT m A R t) Sh u := ns_congr (fun q _ => by
      have : mkT m A R' t q = mkT m A R t q := by
        apply Nat.eq_of_testBit_eq
        intro l
        have x : (mkT m A R' t q).testBit l = true ↔ (mkT m A R t q).testBit l = true := by
          rw [mkT_bit, mkT_bit]
          constructor
          · rintro ⟨h1, h2, h3⟩
            exact ⟨h1, h2, fun k hk tk => by rw [e l (by omega), e k (by omega)]; exact h3 k hk tk⟩
          · rintro ⟨h1, h2, h3⟩
            exact ⟨h1, h2, fun k hk tk => by rw [← e l (by omega), ← e k (by omega)]; exact h3 k hk tk⟩
        cases h1 : (mkT m A R' t q).testBit l <;> cases h2 : (mkT m A R t q).testBit l <;> simp_all
      rw [this])
    rw [i1, i1, i2]
    exact k
  exact ⟨one e, one (fun l hl => (e l hl).symm)⟩
/-- a, b, c are all three lands -/
def cyc (a b c : Nat) : Prop := a < 3 ∧ b < 3 ∧ c < 3 ∧ a ≠ b ∧ a ≠ c ∧ b ≠ c
theorem cyc.is {a b c l : Nat} (h : cyc a b c) (hl : l < 3) : l = a ∨ l = b ∨ l = c := by
  obtain ⟨h1, h2, h3, h4, h5, h6⟩ := h
  omega
def rw3 (a b x y z : Nat) : Nat → Nat := fun l => if l = a then x else if l = b then y else z
theorem rw3_a {a b x y z : Nat} : rw3 a b x y z a = x := if_pos rfl
theorem rw3_b {a b x y z : Nat} (h : a ≠ b) : rw3 a b x y z b = y := by unfold rw3; rw [if_neg (by omega), if_pos rfl]
theorem rw3_c {a b c x y z : Nat} (h1 : a ≠ c) (h2 : b ≠ c) : rw3 a b x y z c = z := by unfold rw3; rw [if_neg (by omega), if_neg (by omega)]
theorem pw_g : ∀ g, g ≤ 6 → ((1 : Int32) <<< (nI g &&& 31)) = nI (2 ^ g) := by decide +kernel
theorem bit64 : ∀ s, s < 64 → ∀ q, q < 6 → ((nI s >>> (nI q &&& 31)) &&& (1 : Int32)) = nI (if s.testBit q = true then 1 else 0) := by decide +kernel
theorem pw64 {g : Nat} (h : g ≤ 6) : 2 ^ g ≤ 64 := by
  have : 2 ^ g ≤ 2 ^ 6 := Nat.pow_le_pow_right (by decide) h
  omega
section M3
variable {S : Zs} {m g : Nat} {A : Nat → Nat → Nat} {H Sh : Nat → Nat}
theorem p7_bind (D : dat m g A H Sh) (C : mW S m g A H Sh) {a b q x : Nat} (ha : a < m) (hb : b < m) (hq : q < g) : f7_bind (nI a) (nI b) (nI q) (lN x) S = some (zL (zL S 13 a (lN (A b q * x))) 13 b (lN (A a q * x))) := by
  have d1 := D.1
  have d2 := D.2.1
  have ba := D.2.2.2.2 a q ha hq
  have bb := D.2.2.2.2 b q hb hq
  unfold f7_bind
  rw [ix6, ix6, if_pos (inb_nI (by omega) (by decide)), if_pos (inb_nI (by omega) (by decide)), ltt, if_pos (inb_nI (by omega) (by decide)), if_pos (inb_nI (by omega) (by decide)), ltt, nI_clamp (by omega), nI_clamp (by omega), nI_clamp (by omega), nI_clamp (by omega), zL_1, C.2.2.2.2 a q ha hq, C.2.2.2.2 b q hb hq, nI_l (by omega), nI_l (by omega), lN_mul, lN_mul]
theorem p7_isPairBound (D : dat m g A H Sh) (C : mW S m g A H Sh) {t a b c : Nat} (ht : t < 8) (y : cyc a b c) (ha : a < m) (hb : b < m) (e3 : ((3 : Int32) - nI a) - nI b = nI c) : fnd m g A H Sh t S (f7_isPairBound (nI t) (nI a) (nI b) S) (fun R => ∃ q, q < g ∧ R = rw3 a b (A b q) (A a q) 1) := by
  have d1 := D.1
  have d2 := D.2.1
  have y' := y
  obtain ⟨y1, y2, y3, y4, y5, y6⟩ := y
  have key : ∀ n j (S1 : Zs), j ≤ g → g - j < n → mfr S S1 → S1.2 13 c = lN 1 → (∀ q, q < j → ¬ gd m g A H Sh t (rw3 a b (A b q) (A a q) 1)) → fnd m g A H Sh t S (f7_isPairBound_14 n (nI t) (nI a) (nI b) (nI j) S1) (fun R => ∃ q, q < g ∧ R = rw3 a b (A b q) (A a q) 1) := by
    intro n
    induction n with
    | zero => intro j S1 _ h; omega
    | succ n ih =>
      intro j S1 hj hn hf h13 hno
      have C1 := mW_fr C hf
      rw [f7_isPairBound_14]
      dsimp only
      rw [C1.2.1]
      by_cases e : g ≤ j
      · rw [if_pos (nI_le e (by omega))]
        exact ⟨0, S1, rfl, hf, Or.inr ⟨rfl, fun R ⟨q, hq, eR⟩ => by rw [eR]; exact hno q (by omega)⟩⟩
      · have ba := D.2.2.2.2 a j ha (by omega)
        have bb := D.2.2.2.2 b j hb (by omega)
        rw [if_neg (nI_ge (by omega) (by omega)), show (1 : Int64) = lN 1 from rfl, p7_bind D C1 ha hb (by omega), bd1s, Nat.mul_one, Nat.mul_one]
        have f2 : mfr S (zL (zL S1 13 a (lN (A b j))) 13 b (lN (A a j))) := (hf.tr (mfr.L (Or.inr rfl))).tr (mfr.L (Or.inr rfl))
        have r13 : ∀ l, l < 3 → (zL (zL S1 13 a (lN (A b j))) 13 b (lN (A a j))).2 13 l = lN (rw3 a b (A b j) (A a j) 1 l) ∧ rw3 a b (A b j) (A a j) 1 l ≤ 10000000 := by
          intro l hl
          rw [zL_rd, zL_rd]
          rcases y'.is hl with rfl | rfl | rfl
          · rw [rw3_a, if_neg (fun k => by omega), if_pos ⟨rfl, rfl⟩]; exact ⟨rfl, by omega⟩
          · rw [rw3_b y4, if_pos ⟨rfl, rfl⟩]; exact ⟨rfl, by omega⟩
          · rw [rw3_c y5 y6, if_neg (fun k => by omega), if_neg (fun k => by omega)]; exact ⟨h13, by omega⟩
        obtain ⟨r, S3, k1, k2, k3, k4, k5⟩ := p7_isRow D (mW_fr C f2) ht r13
        rw [k1, bd2s]
        rcases k5 with ⟨er, k5⟩ | ⟨er, k5⟩
        · rw [er, if_neg (by decide)]
          exact ⟨1, S3, rfl, f2.tr k2, Or.inl ⟨rfl, _, k4, k5⟩⟩
        · rw [er, if_pos rfl, ltt, show nI j + 1 = nI (j + 1) from nI_1 _]
          refine ih (j + 1) S3 (by omega) (by omega) (f2.tr k2) ?_ (fun q hq => ?_)
          · rw [k3, (r13 c y3).1, rw3_c y5 y6]
          · by_cases cq : q = j
            · rw [cq]; exact k5
            · exact hno q (by omega)
  unfold f7_isPairBound
  rw [e3, if_pos (inb_nI y3 (by decide)), ltt, nI_clamp (by omega)]
  exact key fuel0 0 _ (by omega) (by unfold fuel0; omega) (mfr.L (Or.inr rfl)) (by rw [zL_rd, if_pos ⟨rfl, rfl⟩]; rfl) (fun q h => by omega)
def own (g : Nat) (Sh : Nat → Nat) (s : Nat) : Nat := ns g (fun q => if s.testBit q = true then Sh q else 0)
def rB1 (g : Nat) (A : Nat → Nat → Nat) (H Sh : Nat → Nat) (a b c j s : Nat) : Nat → Nat := rw3 a b (A b j * ((ns g Sh - own g Sh s) * H c)) (A a j * ((ns g Sh - own g Sh s) * H c)) ((H a * A b j + H b * A a j) * own g Sh s)
def rB2 (A : Nat → Nat → Nat) (a b c j q : Nat) : Nat → Nat := rw3 a b (A b j * A c q) (A a j * A c q) (A a j * A b q)
theorem own_le {s : Nat} : own g Sh s ≤ ns g Sh := ns_mono (fun q _ => by split <;> omega)
theorem row3 {a b c : Nat} (y : cyc a b c) {S1 : Zs} {x y' z : Nat} (h1 : x ≤ 10000000) (h2 : y' ≤ 10000000) (h3 : z ≤ 10000000) : ∀ l, l < 3 → (zL (zL (zL S1 13 a (lN x)) 13 b (lN y')) 13 c (lN z)).2 13 l = lN (rw3 a b x y' z l) ∧ rw3 a b x y' z l ≤ 10000000 := by
  intro l hl
  have yy := y
  obtain ⟨y1, y2, y3, y4, y5, y6⟩ := y
  rw [zL_rd, zL_rd, zL_rd]
  rcases yy.is hl with rfl | rfl | rfl
  · rw [rw3_a, if_neg (fun k => by omega), if_neg (fun k => by omega), if_pos ⟨rfl, rfl⟩]; exact ⟨rfl, h1⟩
  · rw [rw3_b y4, if_neg (fun k => by omega), if_pos ⟨rfl, rfl⟩]; exact ⟨rfl, h2⟩
  · rw [rw3_c y5 y6, if_pos ⟨rfl, rfl⟩]; exact ⟨rfl, h3⟩
theorem p7_isPartBound (D : dat 3 g A H Sh) (C : mW S 3 g A H Sh) {a b c : Nat} (y : cyc a b c) : fnd 3 g A H Sh 7 S (f7_isPartBound (nI a) (nI b) (nI c) S) (fun R => ∃ j, j < g ∧ ((∃ s, 1 ≤ s ∧ s < 2 ^ g ∧ R = rB1 g A H Sh a b c j s) ∨ ∃ q, q < g ∧ R = rB2 A a b c j q)) := by
  have d2 := D.2.1
  have yy := y
  obtain ⟨y1, y2, y3, y4, y5, y6⟩ := y
  have g64 := pw64 d2.2
  have s120 := ns_sh D
  -- the second kind of rows
  have lp2 : ∀ (k3 : Int32 → Int32 → Int32 → Int32 → Zs → Option (Int32 × Zs)) (Q : (Nat → Nat) → Prop) j, j < g → (∀ S2, mfr S S2 → (∀ q, q < g → ¬ gd 3 g A H Sh 7 (rB2 A a b c j q)) → fnd 3 g A H Sh 7 S (k3 (nI a) (nI b) (nI c) (nI (j + 1)) S2) Q) → ∀ n i (S1 : Zs), i ≤ g → g - i < n → mfr S S1 → (∀ q, q < i → ¬ gd 3 g A H Sh 7 (rB2 A a b c j q)) → fnd 3 g A H Sh 7 S (f7_isPartBound_164 k3 n (nI a) (nI b) (nI c) (nI j) (nI i) S1) Q := by
    intro k3 Q j hj hk n
    induction n with
    | zero => intro i S1 _ h; omega
    | succ n ih =>
      intro i S1 hi hn hf hno
      have C1 := mW_fr C hf
      rw [f7_isPartBound_164]
      dsimp only
      rw [C1.2.1]
      by_cases e : g ≤ i
      · rw [if_pos (nI_le e (by omega)), ltt, show nI j + 1 = nI (j + 1) from nI_1 _]
        exact hk S1 hf (fun q hq => hno q (by omega))
      · have aj := D.2.2.2.2 a j y1 hj
        have bj := D.2.2.2.2 b j y2 hj
        have bi := D.2.2.2.2 b i y2 (by omega)
        have ci := D.2.2.2.2 c i y3 (by omega)
        rw [if_neg (nI_ge (by omega) (by omega)), ix6, ix6, ix6, ix6]
        rw [if_pos (inb_nI (by omega) (by decide)), if_pos (inb_nI (by omega) (by decide)), if_pos (inb_nI (by omega) (by decide)), ltt, if_pos (inb_nI (by omega) (by decide)), if_pos (inb_nI (by omega) (by decide)), if_pos (inb_nI (by omega) (by decide)), ltt, if_pos (inb_nI (by omega) (by decide)), if_pos (inb_nI (by omega) (by decide)), if_pos (inb_nI (by omega) (by decide)), ltt]
        simp only [zL_1]
        rw [nI_clamp (show 6 * b + j < 2 ^ 31 by omega), nI_clamp (show 6 * c + i < 2 ^ 31 by omega), nI_clamp (show 6 * a + j < 2 ^ 31 by omega), nI_clamp (show 6 * b + i < 2 ^ 31 by omega), nI_clamp (show a < 2 ^ 31 by omega), nI_clamp (show b < 2 ^ 31 by omega), nI_clamp (show c < 2 ^ 31 by omega), C1.2.2.2.2 b j y2 hj, C1.2.2.2.2 a j y1 hj, C1.2.2.2.2 b i y2 (by omega), C1.2.2.2.2 c i y3 (by omega), nI_l (show A a j < 2 ^ 31 by omega), nI_l (show A b j < 2 ^ 31 by omega), nI_l (show A b i < 2 ^ 31 by omega), nI_l (show A c i < 2 ^ 31 by omega), lN_mul, lN_mul, lN_mul]
        have m1 : A b j * A c i ≤ 20 * 20 := Nat.mul_le_mul bj.2 ci.2
        have m2 : A a j * A c i ≤ 20 * 20 := Nat.mul_le_mul aj.2 ci.2
        have m3 : A a j * A b i ≤ 20 * 20 := Nat.mul_le_mul aj.2 bi.2
        have f2 : mfr S (zL (zL (zL S1 13 a (lN (A b j * A c i))) 13 b (lN (A a j * A c i))) 13 c (lN (A a j * A b i))) := ((hf.tr (mfr.L (Or.inr rfl))).tr (mfr.L (Or.inr rfl))).tr (mfr.L (Or.inr rfl))
        obtain ⟨r, S3, k1, k2, -, k4, k5⟩ := p7_isRow D (mW_fr C f2) (t := 7) (by omega) (row3 yy (S1 := S1) (x := A b j * A c i) (y' := A a j * A c i) (z := A a j * A b i) (by omega) (by omega) (by omega))
        rw [show (7 : Int32) = nI 7 from rfl, k1, bd2s]
        rcases k5 with ⟨er, k5⟩ | ⟨er, k5⟩
        · rw [er, if_neg (by decide)]
          exact ⟨1, S3, rfl, f2.tr k2, Or.inl ⟨rfl, _, k4, k5⟩⟩
        · rw [er, if_pos rfl, ltt, show nI i + 1 = nI (i + 1) from nI_1 _]
          refine ih (i + 1) S3 (by omega) (by omega) (f2.tr k2) (fun q hq => ?_)
          by_cases cq : q = i
          · rw [cq]; exact k5
          · exact hno q (by omega)
  -- the first kind: one row
  have one : ∀ (k3 : Int32 → Int32 → Int32 → Int32 → Zs → Option (Int32 × Zs)) (k15 : Int32 → Int32 → Int32 → Int32 → Int32 → Zs → Option (Int32 × Zs)) (Q : (Nat → Nat) → Prop) j s, j < g → s < 2 ^ g → (∀ S2, mfr S S2 → ¬ gd 3 g A H Sh 7 (rB1 g A H Sh a b c j s) → fnd 3 g A H Sh 7 S (k15 (nI a) (nI b) (nI c) (nI j) (nI (s + 1)) S2) Q) → ∀ n i (S1 : Zs), i ≤ g → g - i < n → mfr S S1 → fnd 3 g A H Sh 7 S (f7_isPartBound_32 k3 k15 n (nI a) (nI b) (nI c) (nI j) (nI s) (nI (ns i (fun q => if s.testBit q = true then Sh q else 0))) (nI i) S1) Q := by
    intro k3 k15 Q j s hj hs hk n
    induction n with
    | zero => intro i S1 _ h; omega
    | succ n ih =>
      intro i S1 hi hn hf
      have C1 := mW_fr C hf
      rw [f7_isPartBound_32]
      dsimp only
      rw [C1.2.1]
      by_cases e : g ≤ i
      · have eo : ns i (fun q => if s.testBit q = true then Sh q else 0) = own g Sh s := by rw [show i = g by omega]; rfl
        have ol := own_le (g := g) (Sh := Sh) (s := s)
        have aj := D.2.2.2.2 a j y1 hj
        have bj := D.2.2.2.2 b j y2 hj
        have ha := D.2.2.1 a y1
        have hb := D.2.2.1 b y2
        have hc := D.2.2.1 c y3
        rw [if_pos (nI_le e (by omega)), p7_allShares D C1, bd1s, eo, if_pos (inb_nI (by omega) (by decide)), nI_clamp (show c < 2 ^ 31 by omega), C1.2.2.2.1 c y3, pk_sub ol, nI_l (by omega), nI_l (by omega), lN_mul, p7_bind D C1 y1 y2 hj, bd1s]
        rw [if_pos (inb_nI (by omega) (by decide)), ix6, ix6, if_pos (inb_nI (by omega) (by decide)), if_pos (inb_nI (by omega) (by decide)), if_pos (inb_nI (by omega) (by decide)), if_pos (inb_nI (by omega) (by decide)), ltt]
        simp only [zL_1]
        rw [nI_clamp (show 6 * b + j < 2 ^ 31 by omega), nI_clamp (show 6 * a + j < 2 ^ 31 by omega), nI_clamp (show a < 2 ^ 31 by omega), nI_clamp (show b < 2 ^ 31 by omega), C1.2.2.2.1 a y1, C1.2.2.2.1 b y2, C1.2.2.2.2 a j y1 hj, C1.2.2.2.2 b j y2 hj, nI_l (show H a < 2 ^ 31 by omega), nI_l (show H b < 2 ^ 31 by omega), nI_l (show A a j < 2 ^ 31 by omega), nI_l (show A b j < 2 ^ 31 by omega), nI_l (show own g Sh s < 2 ^ 31 by omega), lN_mul, lN_mul, lN_add, lN_mul]
        have m0 : (ns g Sh - own g Sh s) * H c ≤ 120 * 99 := Nat.mul_le_mul (by omega) hc.2
        have m1 : A b j * ((ns g Sh - own g Sh s) * H c) ≤ 20 * 11880 := Nat.mul_le_mul bj.2 m0
        have m2 : A a j * ((ns g Sh - own g Sh s) * H c) ≤ 20 * 11880 := Nat.mul_le_mul aj.2 m0
        have m4 : H a * A b j ≤ 99 * 20 := Nat.mul_le_mul ha.2 bj.2
        have m5 : H b * A a j ≤ 99 * 20 := Nat.mul_le_mul hb.2 aj.2
        have m3 : (H a * A b j + H b * A a j) * own g Sh s ≤ 3960 * 120 := Nat.mul_le_mul (by omega) (by omega)
        have f2 : mfr S (zL (zL (zL S1 13 a (lN (A b j * ((ns g Sh - own g Sh s) * H c)))) 13 b (lN (A a j * ((ns g Sh - own g Sh s) * H c)))) 13 c (lN ((H a * A b j + H b * A a j) * own g Sh s))) := ((hf.tr (mfr.L (Or.inr rfl))).tr (mfr.L (Or.inr rfl))).tr (mfr.L (Or.inr rfl))
        obtain ⟨r, S3, k1, k2, -, k4, k5⟩ := p7_isRow D (mW_fr C f2) (t := 7) (by omega) (row3 yy (S1 := S1) (x := A b j * ((ns g Sh - own g Sh s) * H c)) (y' := A a j * ((ns g Sh - own g Sh s) * H c)) (z := (H a * A b j + H b * A a j) * own g Sh s) (by omega) (by omega) (by omega))
        rw [show (7 : Int32) = nI 7 from rfl, k1, bd2s]
        rcases k5 with ⟨er, k5⟩ | ⟨er, k5⟩
        · rw [er, if_neg (by decide)]
          exact ⟨1, S3, rfl, f2.tr k2, Or.inl ⟨rfl, _, k4, k5⟩⟩
        · rw [er, if_pos rfl, ltt, show nI s + 1 = nI (s + 1) from nI_1 _]
          exact hk S3 (f2.tr k2) k5
      · have ih' := ih (i + 1) S1 (by omega) (by omega) hf
        have e1 : ns (i + 1) (fun q => if s.testBit q = true then Sh q else 0) = ns i (fun q => if s.testBit q = true then Sh q else 0) + (if s.testBit i = true then Sh i else 0) := rfl
        rw [e1] at ih'
        rw [if_neg (nI_ge (by omega) (by omega)), if_pos (inb_nI (by omega) (by decide)), ltt, ltt, nI_clamp (show i < 2 ^ 31 by omega), bit64 s (by omega) i (by omega), C1.2.2.1 i (by omega), pk_mul, nI_add, show nI i + 1 = nI (i + 1) from nI_1 _]
        by_cases cb : s.testBit i = true
        · rw [if_pos cb] at ih'
          rw [if_pos cb, Nat.one_mul]
          exact ih'
        · rw [if_neg cb] at ih'
          rw [if_neg cb, Nat.zero_mul]
          exact ih'
  have lp1 : ∀ (k3 : Int32 → Int32 → Int32 → Int32 → Zs → Option (Int32 × Zs)) (Q : (Nat → Nat) → Prop) j, j < g → (∀ S2, mfr S S2 → (∀ s, 1 ≤ s → s < 2 ^ g → ¬ gd 3 g A H Sh 7 (rB1 g A H Sh a b c j s)) → (∀ q, q < g → ¬ gd 3 g A H Sh 7 (rB2 A a b c j q)) → fnd 3 g A H Sh 7 S (k3 (nI a) (nI b) (nI c) (nI (j + 1)) S2) Q) → ∀ n s (S1 : Zs), 1 ≤ s → s ≤ 2 ^ g → 2 ^ g - s < n → mfr S S1 → (∀ s', 1 ≤ s' → s' < s → ¬ gd 3 g A H Sh 7 (rB1 g A H Sh a b c j s')) → fnd 3 g A H Sh 7 S (f7_isPartBound_15 k3 n (nI a) (nI b) (nI c) (nI j) (nI s) S1) Q := by
    intro k3 Q j hj hk n
    induction n with
    | zero => intro s S1 _ _ h; omega
    | succ n ih =>
      intro s S1 s1 s2 hn hf hno
      have C1 := mW_fr C hf
      rw [f7_isPartBound_15]
      dsimp only
      rw [C1.2.1, pw_g g d2.2]
      by_cases e : 2 ^ g ≤ s
      · rw [if_pos (nI_le e (by omega))]
        exact lp2 k3 Q j hj (fun S2 hf2 h2 => hk S2 hf2 (fun s' h1 h2 => hno s' h1 (by omega)) h2) fuel0 0 S1 (by omega) (by unfold fuel0; omega) hf (fun q h => by omega)
      · rw [if_neg (nI_ge (by omega) (by omega))]
        exact one k3 (f7_isPartBound_15 k3 n) Q j s hj (by omega) (fun S2 hf2 h2 => ih (s + 1) S2 (by omega) (by omega) (by omega) hf2 (fun s' h1 h3 => by
          by_cases cs : s' = s
          · rw [cs]; exact h2
          · exact hno s' h1 (by omega))) fuel0 0 S1 (by omega) (by unfold fuel0; omega) hf
  have key : ∀ n j (S1 : Zs), j ≤ g → g - j < n → mfr S S1 → (∀ j', j' < j → (∀ s, 1 ≤ s → s < 2 ^ g → ¬ gd 3 g A H Sh 7 (rB1 g A H Sh a b c j' s)) ∧ ∀ q, q < g → ¬ gd 3 g A H Sh 7 (rB2 A a b c j' q)) → fnd 3 g A H Sh 7 S (f7_isPartBound_3 n (nI a) (nI b) (nI c) (nI j) S1) (fun R => ∃ j, j < g ∧ ((∃ s, 1 ≤ s ∧ s < 2 ^ g ∧ R = rB1 g A H Sh a b c j s) ∨ ∃ q, q < g ∧ R = rB2 A a b c j q)) := by
    intro n
    induction n with
    | zero => intro j S1 _ h; omega
    | succ n ih =>
      intro j S1 hj hn hf hno
      have C1 := mW_fr C hf
      rw [f7_isPartBound_3]
      dsimp only
      rw [C1.2.1]
      by_cases e : g ≤ j
      · rw [if_pos (nI_le e (by omega))]
        refine ⟨0, S1, rfl, hf, Or.inr ⟨rfl, fun R ⟨j', hj', h⟩ => ?_⟩⟩
        rcases h with ⟨s, h1, h2, eR⟩ | ⟨q, h1, eR⟩
        · rw [eR]; exact (hno j' (by omega)).1 s h1 h2
        · rw [eR]; exact (hno j' (by omega)).2 q h1
      · rw [if_neg (nI_ge (by omega) (by omega))]
        refine lp1 (f7_isPartBound_3 n) _ j (by omega) (fun S2 hf2 h1 h2 => ih (j + 1) S2 (by omega) (by omega) hf2 (fun j' hj' => ?_)) fuel0 1 S1 (by omega) Nat.one_le_two_pow (by unfold fuel0; omega) hf (fun s' h1 h2 => by omega)
        by_cases cj : j' = j
        · rw [cj]; exact ⟨h1, h2⟩
        · exact hno j' (by omega)
  exact key fuel0 0 S (by omega) (by unfold fuel0; omega) mfr.rf (fun j' h => by omega)
end M3
