/-! rings; more -/
def rn2 (A : Nat → Nat → Nat) (sp : Nat → Nat) (g a b : Nat) : Int32 := match bg A sp a b g with
  | none => 0
  | some x => match bg A sp b a g with
    | none => 0
    | some y => if A b x * A a y < A a x * A b y then 1 else 0
def rn3 (A : Nat → Nat → Nat) (sp : Nat → Nat) (g a b c : Nat) : Int32 := match bg A sp a b g with
  | none => 0
  | some x => match bg A sp b c g with
    | none => 0
    | some y => match bg A sp c a g with
      | none => 0
      | some z => if A b x * A c y * A a z < A a x * A b y * A c z then 1 else 0
def gst (A : Nat → Nat → Nat) (a b : Nat) (o : Option Nat) (k : Int64 → Int64 → Option Int32) (x3 x5 : Int64) : Option Int32 := match o with
  | none => some 0
  | some x => k (x3 * lN (A b x)) (x5 * lN (A a x))
def sL (T S : Zs) : Prop := S.1 = T.1 ∧ ∀ k, k ≠ 0 → S.2 k = T.2 k
section MP
variable {C M T S : Zs} {m g : Nat} {A : Nat → Nat → Nat} {H Sh : Nat → Nat} {sp : Nat → Nat}
theorem p5_isL (c : cW C 37 m g A H Sh) (hm : m ≤ 3) {a : Nat} (ha : a < 3) : f5_isLand 37 C (nI a) = if a < m then 1 else 0 := by
  unfold f5_isLand
  rw [c.1, if_neg (nI_pos (by omega))]
  by_cases k : a < m
  · rw [if_pos k, if_neg (nI_ge k (by omega))]
  · rw [if_neg k, if_pos (nI_le (by omega) (by omega))]
theorem p6_step (D : dat m g A H Sh) (c : cW C 37 m g A H Sh) (hs : ∀ q, q < g → C.1 65 q = nI (sp q) ∧ sp q < 8) {a b : Nat} (ha : a < m) (hb : b < m) {k20 : Int32 → Int32 → Int64 → Int64 → Int32 → Option Int32} {x1 x2 x7 t0 t1 : Int32} {x3 x5 : Int64} (e : f6_landOfRing t1 t0 = nI b) : f6_makesMore_51 C k20 x1 x2 x3 x5 x7 (nI a) t0 t1 = gst A a b (bg A sp a b g) (fun u v => k20 x1 x2 u v (x7 + 1)) x3 x5 := by
  have d1 := D.1
  have d2 := D.2.1
  have eb : f6_bestGift C (nI a) (nI b) = some (ecC (bg A sp a b g)) := p6_bg D c hs ha hb fuel0 0 (by omega) (by unfold fuel0; omega)
  unfold f6_makesMore_51
  rw [e, ltt, p5_isL c d1.2 (by omega), if_pos ha, if_neg i10, p5_isL c d1.2 (by omega), if_pos hb, if_neg i10, eb, bd1s]
  unfold gst
  cases hx : bg A sp a b g with
  | none => rfl
  | some x =>
    have hxg := bg_lt hx
    have bA := D.2.2.2.2 a x ha hxg
    have bB := D.2.2.2.2 b x hb hxg
    unfold ecC
    dsimp only
    rw [if_pos (nI_pos' (by omega)), if_pos (inb_nI (show b < 3 by omega) (by decide)), if_pos (inb_nI (show x < 6 by omega) (by decide)), ltt, if_pos (inb_nI (show a < 3 by omega) (by decide)), if_pos (inb_nI (show x < 6 by omega) (by decide)), ltt, ltt, nI_clamp (show a < 2 ^ 31 by omega), nI_clamp (show b < 2 ^ 31 by omega), nI_clamp (show x < 2 ^ 31 by omega), c.2.2.2.2 b x hb (by omega), c.2.2.2.2 a x ha (by omega), nI_l (by omega), nI_l (by omega)]
theorem p6_nol (c : cW C 37 m g A H Sh) (hm : m ≤ 3) {a b : Nat} (ha : a < 3) (hb : b < 3) (h : m ≤ a ∨ m ≤ b) {k20 : Int32 → Int32 → Int64 → Int64 → Int32 → Option Int32} {x1 x2 x7 t0 t1 : Int32} {x3 x5 : Int64} (e : f6_landOfRing t1 t0 = nI b) : f6_makesMore_51 C k20 x1 x2 x3 x5 x7 (nI a) t0 t1 = some 0 := by
  unfold f6_makesMore_51
  rw [e, ltt, p5_isL c hm ha, p5_isL c hm hb]
  by_cases k : a < m
  · rw [if_pos k, if_neg i10, if_neg (show ¬ b < m by omega), if_pos rfl]
  · rw [if_neg k, if_pos rfl]
theorem mm_st (n : Nat) (x1 x2 : Int32) (x3 x5 : Int64) (x7 : Int32) : f6_makesMore_20 C (n + 1) x1 x2 x3 x5 x7 = if x2 ≤ x7 then (if x5 ≤ x3 then some 0 else some 1) else if x2 ≤ x7 + 1 then f6_makesMore_51 C (f6_makesMore_20 C n) x1 x2 x3 x5 x7 (f6_landOfRing x1 x7) 0 x1 else f6_makesMore_51 C (f6_makesMore_20 C n) x1 x2 x3 x5 x7 (f6_landOfRing x1 x7) (x7 + 1) x1 := rfl
theorem le_64 {u v : Nat} (hu : u ≤ 1000000) (hv : v ≤ 1000000) : (if lN v ≤ lN u then some (0 : Int32) else some 1) = some (if u < v then 1 else 0) := by
  by_cases c : u < v
  · rw [if_pos c, if_neg (fun k => by have := (pk_lLE (by omega) (by omega)).mp k; omega)]
  · rw [if_neg c, if_pos ((pk_lLE (by omega) (by omega)).mpr (by omega))]
theorem p6_ring2 (D : dat m g A H Sh) (c : cW C 37 m g A H Sh) (hs : ∀ q, q < g → C.1 65 q = nI (sp q) ∧ sp q < 8) {a b : Nat} (ha : a < m) (hb : b < m) {code : Int32} (l0 : f6_landOfRing code 0 = nI a) (l1 : f6_landOfRing code 1 = nI b) : f6_makesMore_11 C code 2 = some (rn2 A sp g a b) := by
  unfold f6_makesMore_11
  rw [show fuel0 = 997 + 1 + 1 + 1 from rfl, mm_st, if_neg (by decide), if_neg (by decide), l0, show (0 : Int32) + 1 = 1 from rfl, p6_step D c hs ha hb l1]
  unfold rn2
  cases hx : bg A sp a b g with
  | none => rfl
  | some x =>
    unfold gst
    dsimp only
    rw [show (0 : Int32) + 1 = 1 from rfl, mm_st, if_neg (by decide), if_pos (by decide), l1, p6_step D c hs hb ha l0]
    cases hy : bg A sp b a g with
    | none => rfl
    | some y =>
      unfold gst
      dsimp only
      rw [mm_st, if_pos (by decide), show (1 : Int64) = lN 1 from rfl, lN_mul, lN_mul, lN_mul, lN_mul, Nat.one_mul, Nat.one_mul]
      have m1 := mulb D hb ha (bg_lt hx) (bg_lt hy)
      have m2 := mulb D ha hb (bg_lt hx) (bg_lt hy)
      exact le_64 (by omega) (by omega)
theorem mulb3 (D : dat m g A H Sh) {a b c x y z : Nat} (ha : a < m) (hb : b < m) (hc : c < m) (hx : x < g) (hy : y < g) (hz : z < g) : A a x * A b y * A c z ≤ 8000 := Nat.mul_le_mul (mulb D ha hb hx hy) (D.2.2.2.2 c z hc hz).2
theorem p6_ring3 (D : dat m g A H Sh) (w : cW C 37 m g A H Sh) (hs : ∀ q, q < g → C.1 65 q = nI (sp q) ∧ sp q < 8) {a b c : Nat} (ha : a < m) (hb : b < m) (hc : c < m) {code : Int32} (l0 : f6_landOfRing code 0 = nI a) (l1 : f6_landOfRing code 1 = nI b) (l2 : f6_landOfRing code 2 = nI c) : f6_makesMore_11 C code 3 = some (rn3 A sp g a b c) := by
  unfold f6_makesMore_11
  rw [show fuel0 = 996 + 1 + 1 + 1 + 1 from rfl, mm_st, if_neg (by decide), if_neg (by decide), l0, show (0 : Int32) + 1 = 1 from rfl, p6_step D w hs ha hb l1]
  unfold rn3
  cases hx : bg A sp a b g with
  | none => rfl
  | some x =>
    unfold gst
    dsimp only
    rw [show (0 : Int32) + 1 = 1 from rfl, mm_st, if_neg (by decide), if_neg (by decide), l1, show (1 : Int32) + 1 = 2 from rfl, p6_step D w hs hb hc l2]
    cases hy : bg A sp b c g with
    | none => rfl
    | some y =>
      unfold gst
      dsimp only
      rw [show (1 : Int32) + 1 = 2 from rfl, mm_st, if_neg (by decide), if_pos (by decide), l2, p6_step D w hs hc ha l0]
      cases hz : bg A sp c a g with
      | none => rfl
      | some z =>
        unfold gst
        dsimp only
        rw [mm_st, if_pos (by decide), show (1 : Int64) = lN 1 from rfl, lN_mul, lN_mul, lN_mul, lN_mul, lN_mul, lN_mul, Nat.one_mul, Nat.one_mul]
        have m1 := mulb3 D hb hc ha (bg_lt hx) (bg_lt hy) (bg_lt hz)
        have m2 := mulb3 D ha hb hc (bg_lt hx) (bg_lt hy) (bg_lt hz)
        exact le_64 (by omega) (by omega)
theorem p6_none0 (c : cW C 37 m g A H Sh) (hm : m ≤ 3) {a b : Nat} (ha : a < 3) (hb : b < 3) (h : m ≤ a ∨ m ≤ b) {code x2 : Int32} (h2 : x2 = 2 ∨ x2 = 3) (l0 : f6_landOfRing code 0 = nI a) (l1 : f6_landOfRing code 1 = nI b) : f6_makesMore_11 C code x2 = some 0 := by
  unfold f6_makesMore_11
  rcases h2 with rfl | rfl
  · rw [show fuel0 = 997 + 1 + 1 + 1 from rfl, mm_st, if_neg (by decide), if_neg (by decide), l0, show (0 : Int32) + 1 = 1 from rfl, p6_nol c hm ha hb h l1]
  · rw [show fuel0 = 997 + 1 + 1 + 1 from rfl, mm_st, if_neg (by decide), if_neg (by decide), l0, show (0 : Int32) + 1 = 1 from rfl, p6_nol c hm ha hb h l1]
theorem p6_none1 (D : dat m g A H Sh) (w : cW C 37 m g A H Sh) (hs : ∀ q, q < g → C.1 65 q = nI (sp q) ∧ sp q < 8) {a b c : Nat} (ha : a < m) (hb : b < m) (hc : m ≤ c) (hc3 : c < 3) {code : Int32} (l0 : f6_landOfRing code 0 = nI a) (l1 : f6_landOfRing code 1 = nI b) (l2 : f6_landOfRing code 2 = nI c) : f6_makesMore_11 C code 3 = some 0 := by
  have d1 := D.1
  unfold f6_makesMore_11
  rw [show fuel0 = 996 + 1 + 1 + 1 + 1 from rfl, mm_st, if_neg (by decide), if_neg (by decide), l0, show (0 : Int32) + 1 = 1 from rfl, p6_step D w hs ha hb l1]
  cases hx : bg A sp a b g with
  | none => rfl
  | some x =>
    unfold gst
    dsimp only
    rw [show (0 : Int32) + 1 = 1 from rfl, mm_st, if_neg (by decide), if_neg (by decide), l1, show (1 : Int32) + 1 = 2 from rfl, p6_nol w d1.2 (by omega) hc3 (Or.inr hc) l2]
theorem lr_st {r : Int32} (n : Nat) {k : Nat} (hk : k < 5) (e : f6_makesMore C (zRings.getD k 0) = some r) : f6_leastRing_2 C (n + 1) (nI k) = if r = 0 then f6_leastRing_2 C n (nI (k + 1)) else some ((zRings.getD k 0).toInt64) := by
  rw [f6_leastRing_2]
  dsimp only
  rw [if_neg (show ¬ (5 : Int32) ≤ nI k from nI_ge (b := 5) hk (by decide)), if_pos (inb_nI hk (by decide)), nI_clamp (by omega), e, bd1s, ltt, show nI k + 1 = nI (k + 1) from nI_1 _, if_pos (inb_nI hk (by decide))]
def lrg (r0 r1 r2 r3 r4 : Int32) : Int64 := if r0 = 0 then (if r1 = 0 then (if r2 = 0 then (if r3 = 0 then (if r4 = 0 then 0 else 209) else 153) else 26) else 25) else 17
theorem p6_least {r0 r1 r2 r3 r4 : Int32} (e0 : f6_makesMore_11 C 17 2 = some r0) (e1 : f6_makesMore_11 C 25 2 = some r1) (e2 : f6_makesMore_11 C 26 2 = some r2) (e3 : f6_makesMore_11 C 153 3 = some r3) (e4 : f6_makesMore_11 C 209 3 = some r4) : f6_leastRing C = some (lrg r0 r1 r2 r3 r4) := by
  have m0 : f6_makesMore C (zRings.getD 0 0) = some r0 := by
    unfold f6_makesMore
    rw [show zRings.getD 0 0 = 17 from rfl, if_neg (by decide)]
    exact e0
  have m1 : f6_makesMore C (zRings.getD 1 0) = some r1 := by
    unfold f6_makesMore
    rw [show zRings.getD 1 0 = 25 from rfl, if_neg (by decide)]
    exact e1
  have m2 : f6_makesMore C (zRings.getD 2 0) = some r2 := by
    unfold f6_makesMore
    rw [show zRings.getD 2 0 = 26 from rfl, if_neg (by decide)]
    exact e2
  have m3 : f6_makesMore C (zRings.getD 3 0) = some r3 := by
    unfold f6_makesMore
    rw [show zRings.getD 3 0 = 153 from rfl, if_pos (by decide)]
    exact e3
  have m4 : f6_makesMore C (zRings.getD 4 0) = some r4 := by
    unfold f6_makesMore
    rw [show zRings.getD 4 0 = 209 from rfl, if_pos (by decide)]
    exact e4
  have en : f6_leastRing_2 C (994 + 1) (nI (4 + 1)) = some 0 := by
    rw [f6_leastRing_2]
    dsimp only
    rw [if_pos (show (5 : Int32) ≤ nI (4 + 1) by decide)]
  have en0 : f6_leastRing_2 C fuel0 0 = f6_leastRing_2 C (994 + 1 + 1 + 1 + 1 + 1 + 1) (nI 0) := by
    rw [show fuel0 = 994 + 1 + 1 + 1 + 1 + 1 + 1 from rfl, show nI 0 = 0 from rfl]
  unfold f6_leastRing lrg
  rw [en0, lr_st _ (by decide) m0, lr_st _ (by decide) m1, lr_st _ (by decide) m2, lr_st _ (by decide) m3, lr_st _ (by decide) m4, en]
  by_cases c0 : r0 = 0
  · rw [if_pos c0, if_pos c0]
    by_cases c1 : r1 = 0
    · rw [if_pos c1, if_pos c1]
      by_cases c2 : r2 = 0
      · rw [if_pos c2, if_pos c2]
        by_cases c3 : r3 = 0
        · rw [if_pos c3, if_pos c3]
          by_cases c4 : r4 = 0
          · rw [if_pos c4, if_pos c4]
          · rw [if_neg c4, if_neg c4]; rfl
        · rw [if_neg c3, if_neg c3]; rfl
      · rw [if_neg c2, if_neg c2]; rfl
    · rw [if_neg c1, if_neg c1]; rfl
  · rw [if_neg c0, if_neg c0]; rfl
/-- the class's answer, by how many lands there are -/
def ring (A : Nat → Nat → Nat) (sp : Nat → Nat) (m g : Nat) : Int64 := if m = 1 then 0 else if m = 2 then lrg (rn2 A sp g 0 1) 0 0 0 0 else lrg (rn2 A sp g 0 1) (rn2 A sp g 0 2) (rn2 A sp g 1 2) (rn3 A sp g 0 2 1) (rn3 A sp g 0 1 2)
theorem p6_leastRing (D : dat m g A H Sh) (c : cW C 37 m g A H Sh) (hs : ∀ q, q < g → C.1 65 q = nI (sp q) ∧ sp q < 8) : f6_leastRing C = some (ring A sp m g) := by
  have d1 := D.1
  unfold ring
  rcases (show m = 1 ∨ m = 2 ∨ m = 3 by omega) with rfl | rfl | rfl
  · rw [if_pos rfl, p6_least (p6_none0 c (by decide) (a := 0) (b := 1) (by decide) (by decide) (by decide) (Or.inl rfl) (by decide) (by decide)) (p6_none0 c (by decide) (a := 0) (b := 2) (by decide) (by decide) (by decide) (Or.inl rfl) (by decide) (by decide)) (p6_none0 c (by decide) (a := 1) (b := 2) (by decide) (by decide) (by decide) (Or.inl rfl) (by decide) (by decide)) (p6_none0 c (by decide) (a := 0) (b := 2) (by decide) (by decide) (by decide) (Or.inr rfl) (by decide) (by decide)) (p6_none0 c (by decide) (a := 0) (b := 1) (by decide) (by decide) (by decide) (Or.inr rfl) (by decide) (by decide))]
    rfl
  · rw [if_neg (by decide), if_pos rfl, p6_least (p6_ring2 D c hs (a := 0) (b := 1) (by decide) (by decide) (by decide) (by decide)) (p6_none0 c (by decide) (a := 0) (b := 2) (by decide) (by decide) (by decide) (Or.inl rfl) (by decide) (by decide)) (p6_none0 c (by decide) (a := 1) (b := 2) (by decide) (by decide) (by decide) (Or.inl rfl) (by decide) (by decide)) (p6_none0 c (by decide) (a := 0) (b := 2) (by decide) (by decide) (by decide) (Or.inr rfl) (by decide) (by decide)) (p6_none1 D c hs (a := 0) (b := 1) (c := 2) (by decide) (by decide) (by decide) (by decide) (by decide) (by decide) (by decide))]
  · rw [if_neg (by decide), if_neg (by decide), p6_least (p6_ring2 D c hs (a := 0) (b := 1) (by decide) (by decide) (by decide) (by decide)) (p6_ring2 D c hs (a := 0) (b := 2) (by decide) (by decide) (by decide) (by decide)) (p6_ring2 D c hs (a := 1) (b := 2) (by decide) (by decide) (by decide) (by decide)) (p6_ring3 D c hs (a := 0) (b := 2) (c := 1) (by decide) (by decide) (by decide) (by decide) (by decide) (by decide)) (p6_ring3 D c hs (a := 0) (b := 1) (c := 2) (by decide) (by decide) (by decide) (by decide) (by decide) (by decide))]
end MP
