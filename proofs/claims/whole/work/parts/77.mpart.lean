/-! the reference's rows that are tried: parted -/
def dg (β w q : Nat) : Nat := w / β ^ q % β
def pt (β w : Nat) (Sh : Nat → Nat) (k j : Nat) : Nat := ns j (fun q => if dg β w q = k then Sh q else 0)
theorem pt_s {β w k j : Nat} {Sh : Nat → Nat} : pt β w Sh k (j + 1) = pt β w Sh k j + (if dg β w j = k then Sh j else 0) := rfl
/-- every way of giving each good a land has its number -/
theorem dg_ex {β : Nat} (hβ : 1 ≤ β) (d : Nat → Nat) : ∀ g, (∀ q, q < g → d q < β) → ∃ w, w < β ^ g ∧ ∀ q, q < g → dg β w q = d q := by
  intro g
  induction g with
  | zero => intro _; exact ⟨0, Nat.one_pos, fun q h => by omega⟩
  | succ g ih =>
    intro hd
    obtain ⟨w, h1, h2⟩ := ih (fun q hq => hd q (by omega))
    have dl := hd g (by omega)
    have pp : 0 < β ^ g := Nat.pow_pos hβ
    refine ⟨w + d g * β ^ g, ?_, fun q hq => ?_⟩
    · rw [Nat.pow_succ]
      have : (d g + 1) * β ^ g ≤ β * β ^ g := Nat.mul_le_mul_right _ dl
      rw [Nat.add_mul] at this
      rw [Nat.mul_comm (β ^ g) β]
      omega
    · unfold dg
      by_cases c : q = g
      · subst c
        rw [Nat.add_mul_div_right _ _ pp, Nat.div_eq_of_lt h1, Nat.zero_add, Nat.mod_eq_of_lt dl]
      · rw [← h2 q (by omega)]
        unfold dg
        obtain ⟨e, he⟩ : ∃ e, g = q + 1 + e := ⟨g - q - 1, by omega⟩
        have pq : 0 < β ^ q := Nat.pow_pos hβ
        have e1 : d g * β ^ g = (d g * β ^ e * β) * β ^ q := by
          rw [show g = q + 1 + e from he, Nat.pow_add, Nat.pow_succ]
          grind
        rw [e1, Nat.add_mul_div_right _ _ pq, Nat.add_mul_mod_self_right]
def pfin (k43 : Int32 → Int32 → Int32 → Int32 → Int32 → Int32 → Int32 → Zs → Option (Int32 × Zs)) (x1 x2 x3 x4 x5 x6 x7 : Int32) (S : Zs) : Option (Int32 × Zs) :=
  if inb x2 3 = true then
    if inb x3 3 = true then
      if 0 ≤ x4 then
        if inb x4 3 = true then
          f7_isParted_174 k43 x1 x2 x3 x4 x5 x6 x7 (S.1 5 x4.toNatClampNeg) (((S.1 5 x2.toNatClampNeg).toInt64) * ((S.1 5 x3.toNatClampNeg).toInt64)) S
        else none
      else
        f7_isParted_174 k43 x1 x2 x3 x4 x5 x6 x7 (1 : Int32) (((S.1 5 x2.toNatClampNeg).toInt64) * ((S.1 5 x3.toNatClampNeg).toInt64)) S
    else none
  else none
section M4
variable {S : Zs} {m g : Nat} {A : Nat → Nat → Nat} {H Sh : Nat → Nat}
def rws (S : Zs) (a b c β w : Nat) (Sh : Nat → Nat) (j : Nat) : Prop := S.2 13 a = lN (pt β w Sh 0 j) ∧ S.2 13 b = lN (pt β w Sh 1 j) ∧ S.2 13 c = lN (pt β w Sh 2 j)
theorem p7_deal (D : dat m g A H Sh) (C : mW S m g A H Sh) {a b c β : Nat} (y : cyc a b c) (hβ : β = 2 ∨ β = 3) {x1 x4 x5 x7 : Int32} (h4 : β = 3 → x4 = nI c) {w : Nat} (hw : w < 1000) (k43 : Int32 → Int32 → Int32 → Int32 → Int32 → Int32 → Int32 → Zs → Option (Int32 × Zs)) : ∀ n j (S1 : Zs), j ≤ g → g - j < n → mfr S S1 → rws S1 a b c β w Sh j → ∃ S2, f7_isParted_78 k43 n x1 (nI a) (nI b) x4 x5 (nI β) x7 (nI (w / β ^ j)) (nI j) S1 = pfin k43 x1 (nI a) (nI b) x4 x5 (nI β) x7 S2 ∧ mfr S S2 ∧ rws S2 a b c β w Sh g := by
  have d2 := D.2.1
  have yy := y
  obtain ⟨y1, y2, y3, y4, y5, y6⟩ := y
  intro n
  induction n with
  | zero => intro j S1 _ h; omega
  | succ n ih =>
    intro j S1 hj hn hf hr
    have C1 := mW_fr C hf
    rw [f7_isParted_78]
    dsimp only
    rw [C1.2.1]
    by_cases e : g ≤ j
    · rw [if_pos (nI_le e (by omega))]
      refine ⟨S1, rfl, hf, ?_⟩
      rw [show g = j by omega]
      exact hr
    · have ws : w / β ^ j ≤ w := Nat.div_le_self _ _
      have bs := D.2.2.2.1 j (by omega)
      have nz : ¬ nI β = 0 := nI_ne0 (by omega) (by omega)
      rw [if_neg (nI_ge (by omega) (by omega)), if_neg nz, pk_rem (by omega) (by omega) (by omega)]
      have ed : w / β ^ j % β = dg β w j := rfl
      have dl : dg β w j < β := Nat.mod_lt _ (by omega)
      rw [ed]
      have give : ∀ e0, e0 < 3 → ((dg β w j = 0 ∧ e0 = a) ∨ (dg β w j = 1 ∧ e0 = b) ∨ (dg β w j = 2 ∧ e0 = c)) → ∃ S2, f7_isParted_118 k43 (f7_isParted_78 k43 n) x1 (nI a) (nI b) x4 x5 (nI β) x7 (nI (w / β ^ j)) (nI j) (nI e0) S1 = pfin k43 x1 (nI a) (nI b) x4 x5 (nI β) x7 S2 ∧ mfr S S2 ∧ rws S2 a b c β w Sh g := by
        intro e0 he0 hd
        unfold f7_isParted_118
        rw [if_pos (inb_nI he0 (by decide)), if_pos (inb_nI (by omega) (by decide)), if_pos (inb_nI he0 (by decide)), ltt, if_neg nz, ltt, ltt, pk_div (by omega) (by omega) (by omega), Nat.div_div_eq_div_mul, ← Nat.pow_succ, nI_clamp (show e0 < 2 ^ 31 by omega), nI_clamp (show j < 2 ^ 31 by omega), C1.2.2.1 j (by omega), nI_l (by omega), show nI j + 1 = nI (j + 1) from nI_1 _]
        refine ih (j + 1) _ (by omega) (by omega) (hf.tr (mfr.L (Or.inr rfl))) ?_
        obtain ⟨r1, r2, r3⟩ := hr
        refine ⟨?_, ?_, ?_⟩
        · rw [zL_rd, pt_s]
          by_cases k : dg β w j = 0
          · rw [if_pos ⟨rfl, by omega⟩, if_pos k, show e0 = a by omega, r1, lN_add]
          · rw [if_neg (fun q => by omega), if_neg k]; exact r1
        · rw [zL_rd, pt_s]
          by_cases k : dg β w j = 1
          · rw [if_pos ⟨rfl, by omega⟩, if_pos k, show e0 = b by omega, r2, lN_add]
          · rw [if_neg (fun q => by omega), if_neg k]; exact r2
        · rw [zL_rd, pt_s]
          by_cases k : dg β w j = 2
          · rw [if_pos ⟨rfl, by omega⟩, if_pos k, show e0 = c by omega, r3, lN_add]
          · rw [if_neg (fun q => by omega), if_neg k]; exact r3
      by_cases c0 : dg β w j = 0
      · rw [if_pos (by rw [c0]; rfl)]
        exact give a y1 (Or.inl ⟨c0, rfl⟩)
      · rw [if_neg (nI_ne0 (by omega) (by omega)), if_neg nz]
        by_cases c1 : dg β w j = 1
        · rw [if_pos (by rw [c1]; rfl)]
          exact give b y2 (Or.inr (Or.inl ⟨c1, rfl⟩))
        · rw [show (1 : Int32) = nI 1 from rfl, if_neg (fun k => c1 ((nI_eq (by omega) (by omega)).mp k))]
          have b3 : β = 3 := by omega
          rw [h4 b3] at ih give ⊢
          exact give c y3 (Or.inr (Or.inr ⟨by omega, rfl⟩))
theorem p7_ways (D : dat m g A H Sh) (C : mW S m g A H Sh) {a b c β t : Nat} (ht : t < 8) (y : cyc a b c) (hβ : β = 2 ∨ β = 3) {x4 : Int32} (h4 : β = 3 → x4 = nI c) (cand : Nat → Nat → Nat) (hfin : ∀ k43 w (S2 : Zs), w < β ^ g → mfr S S2 → rws S2 a b c β w Sh g → ∃ S3, mfr S S3 ∧ (∀ l, l < 3 → S3.2 13 l = lN (cand w l) ∧ cand w l ≤ 10000000) ∧ pfin k43 (nI t) (nI a) (nI b) x4 (nI (β ^ g)) (nI β) (nI w) S2 = f7_isParted_269 k43 (nI t) (nI a) (nI b) x4 (nI (β ^ g)) (nI β) (nI w) S3) : fnd m g A H Sh t S (f7_isParted_13 (nI t) (nI a) (nI b) x4 1 (nI β) S) (fun R => ∃ w, w < β ^ g ∧ R = cand w) := by
  have d2 := D.2.1
  have yy := y
  obtain ⟨y1, y2, y3, y4, y5, y6⟩ := y
  have w729 : β ^ g ≤ 729 := by
    have h1 : β ^ g ≤ 3 ^ g := Nat.pow_le_pow_left (by omega) g
    have h2 : 3 ^ g ≤ 3 ^ 6 := Nat.pow_le_pow_right (by decide) d2.2
    omega
  have key : ∀ n w (S1 : Zs), w ≤ β ^ g → β ^ g - w < n → mfr S S1 → (∀ w', w' < w → ¬ gd m g A H Sh t (cand w')) → fnd m g A H Sh t S (f7_isParted_43 n (nI t) (nI a) (nI b) x4 (nI (β ^ g)) (nI β) (nI w) S1) (fun R => ∃ w, w < β ^ g ∧ R = cand w) := by
    intro n
    induction n with
    | zero => intro w S1 _ h; omega
    | succ n ih =>
      intro w S1 hw hn hf hno
      rw [f7_isParted_43]
      dsimp only
      by_cases e : β ^ g ≤ w
      · rw [if_pos (nI_le e (by omega))]
        exact ⟨0, S1, rfl, hf, Or.inr ⟨rfl, fun R ⟨w', h1, eR⟩ => by rw [eR]; exact hno w' (by omega)⟩⟩
      · rw [if_neg (nI_ge (by omega) (by omega)), if_pos (by decide), ltt, if_pos (by decide), ltt, if_pos (by decide), ltt, show (0 : Int32).toNatClampNeg = 0 by decide, show (1 : Int32).toNatClampNeg = 1 by decide, show (2 : Int32).toNatClampNeg = 2 by decide]
        have f1 : mfr S (zL (zL (zL S1 13 0 0) 13 1 0) 13 2 0) := ((hf.tr (mfr.L (Or.inr rfl))).tr (mfr.L (Or.inr rfl))).tr (mfr.L (Or.inr rfl))
        have z : ∀ l, l < 3 → (zL (zL (zL S1 13 0 0) 13 1 0) 13 2 0).2 13 l = lN 0 := by
          intro l hl
          rw [zL_rd, zL_rd, zL_rd]
          rcases (show l = 0 ∨ l = 1 ∨ l = 2 by omega) with rfl | rfl | rfl
          · rw [if_neg (fun q => by omega), if_neg (fun q => by omega), if_pos ⟨rfl, rfl⟩]; rfl
          · rw [if_neg (fun q => by omega), if_pos ⟨rfl, rfl⟩]; rfl
          · rw [if_pos ⟨rfl, rfl⟩]; rfl
        obtain ⟨S2, e2, f2, r2⟩ := p7_deal D C (x1 := nI t) (x5 := nI (β ^ g)) (x7 := nI w) yy hβ h4 (show w < 1000 by omega) (f7_isParted_43 n) fuel0 0 _ (by omega) (by unfold fuel0; omega) f1 ⟨z a y1, z b y2, z c y3⟩
        rw [Nat.pow_zero, Nat.div_one] at e2
        rw [show nI 0 = (0 : Int32) from rfl] at e2
        rw [e2]
        obtain ⟨S3, f3, r3, e3⟩ := hfin (f7_isParted_43 n) w S2 (by omega) f2 r2
        rw [e3]
        unfold f7_isParted_269
        obtain ⟨r, S4, k1, k2, k3, k4, k5⟩ := p7_isRow D (mW_fr C f3) ht r3
        rw [k1, bd2s]
        rcases k5 with ⟨er, k5⟩ | ⟨er, k5⟩
        · rw [er, if_neg (by decide)]
          exact ⟨1, S4, rfl, f3.tr k2, Or.inl ⟨rfl, _, k4, k5⟩⟩
        · rw [er, if_pos rfl, ltt, show nI w + 1 = nI (w + 1) from nI_1 _]
          refine ih (w + 1) S4 (by omega) (by omega) (f3.tr k2) (fun w' hw' => ?_)
          by_cases cw : w' = w
          · rw [cw]; exact k5
          · exact hno w' (by omega)
  have count : ∀ n j, j ≤ g → g - j < n → f7_isParted_18 n (nI t) (nI a) (nI b) x4 (nI (β ^ j)) (nI β) (nI j) S = f7_isParted_43 fuel0 (nI t) (nI a) (nI b) x4 (nI (β ^ g)) (nI β) 0 S := by
    intro n
    induction n with
    | zero => intro j _ h; omega
    | succ n ih =>
      intro j hj hn
      rw [f7_isParted_18]
      dsimp only
      rw [C.2.1]
      by_cases e : g ≤ j
      · rw [if_pos (nI_le e (by omega)), show j = g by omega]
      · rw [if_neg (nI_ge (by omega) (by omega)), ltt, ltt, pk_mul, ← Nat.pow_succ, show nI j + 1 = nI (j + 1) from nI_1 _]
        exact ih (j + 1) (by omega) (by omega)
  unfold f7_isParted_13
  rw [show (1 : Int32) = nI (β ^ 0) from rfl, show (0 : Int32) = nI 0 from rfl, count fuel0 0 (by omega) (by unfold fuel0; omega)]
  exact key fuel0 0 S (by omega) (by unfold fuel0; omega) mfr.rf (fun w' h => by omega)
theorem pt_le (D : dat m g A H Sh) {β w k : Nat} : pt β w Sh k g ≤ 120 := by
  have d2 := D.2.1
  have : pt β w Sh k g ≤ g * 20 := ns_le (fun q hq => by
    have := D.2.2.2.1 q hq
    split <;> omega)
  omega
def rP3 (g : Nat) (H Sh : Nat → Nat) (w : Nat) : Nat → Nat := rw3 0 1 (pt 3 w Sh 0 g * (H 0 * H 1 * H 2 / H 0)) (pt 3 w Sh 1 g * (H 0 * H 1 * H 2 / H 1)) (pt 3 w Sh 2 g * (H 0 * H 1 * H 2 / H 2))
def rP2 (g : Nat) (H Sh : Nat → Nat) (a b w : Nat) : Nat → Nat := rw3 a b (pt 2 w Sh 0 g * (H a * H b / H a)) (pt 2 w Sh 1 g * (H a * H b / H b)) 1
theorem p7_isParted3 (D : dat 3 g A H Sh) (C : mW S 3 g A H Sh) : fnd 3 g A H Sh 7 S (f7_isParted (nI 7) (nI 0) (nI 1) (nI 2) S) (fun R => ∃ w, w < 3 ^ g ∧ R = rP3 g H Sh w) := by
  have y : cyc 0 1 2 := by unfold cyc; omega
  have hb := D.2.2.1
  have b0 := hb 0 (by omega)
  have b1 := hb 1 (by omega)
  have b2 := hb 2 (by omega)
  have m01 : H 0 * H 1 ≤ 99 * 99 := Nat.mul_le_mul b0.2 b1.2
  have m02 : H 0 * H 2 ≤ 99 * 99 := Nat.mul_le_mul b0.2 b2.2
  have m12 : H 1 * H 2 ≤ 99 * 99 := Nat.mul_le_mul b1.2 b2.2
  have ab : H 0 * H 1 * H 2 ≤ 99 * 99 * 99 := Nat.mul_le_mul m01 b2.2
  have q0 : H 0 * H 1 * H 2 / H 0 ≤ 9801 := by rw [show H 0 * H 1 * H 2 = H 1 * H 2 * H 0 by grind, Nat.mul_div_cancel _ (by omega)]; omega
  have q1 : H 0 * H 1 * H 2 / H 1 ≤ 9801 := by rw [show H 0 * H 1 * H 2 = H 0 * H 2 * H 1 by grind, Nat.mul_div_cancel _ (by omega)]; omega
  have q2 : H 0 * H 1 * H 2 / H 2 ≤ 9801 := by rw [Nat.mul_div_cancel _ (by omega)]; omega
  unfold f7_isParted
  rw [if_pos (by decide), show (3 : Int32) = nI 3 from rfl]
  refine p7_ways D C (by omega) y (Or.inr rfl) (fun _ => rfl) (rP3 g H Sh) (fun k43 w S2 hw hf hr => ?_)
  have C2 := mW_fr C hf
  obtain ⟨r1, r2, r3⟩ := hr
  have p0 : pt 3 w Sh 0 g * (H 0 * H 1 * H 2 / H 0) ≤ 120 * 9801 := Nat.mul_le_mul (pt_le D) q0
  have p1 : pt 3 w Sh 1 g * (H 0 * H 1 * H 2 / H 1) ≤ 120 * 9801 := Nat.mul_le_mul (pt_le D) q1
  have p2 : pt 3 w Sh 2 g * (H 0 * H 1 * H 2 / H 2) ≤ 120 * 9801 := Nat.mul_le_mul (pt_le D) q2
  refine ⟨_, ((hf.tr (mfr.L (k := 13) (j := 0) (Or.inr rfl))).tr (mfr.L (k := 13) (j := 1) (Or.inr rfl))).tr (mfr.L (k := 13) (j := 2) (Or.inr rfl)), row3 y (x := pt 3 w Sh 0 g * (H 0 * H 1 * H 2 / H 0)) (y' := pt 3 w Sh 1 g * (H 0 * H 1 * H 2 / H 1)) (z := pt 3 w Sh 2 g * (H 0 * H 1 * H 2 / H 2)) (by omega) (by omega) (by omega), ?_⟩
  unfold pfin f7_isParted_174
  rw [if_pos (by decide), if_pos (by decide), if_pos (by decide), if_pos (by decide), ltt, show (nI 0).toNatClampNeg = 0 by decide, show (nI 1).toNatClampNeg = 1 by decide, show (nI 2).toNatClampNeg = 2 by decide, C2.2.2.2.1 0 (by omega), C2.2.2.2.1 1 (by omega), C2.2.2.2.1 2 (by omega), nI_l (show H 0 < 2 ^ 31 by omega), nI_l (show H 1 < 2 ^ 31 by omega), nI_l (show H 2 < 2 ^ 31 by omega), lN_mul, lN_mul]
  rw [if_pos (by decide), if_pos (by decide), if_neg (fun k => by have := (lN_0' (show H 0 < 2 ^ 63 by omega)).mp k; omega), if_pos (by decide), pk_lDiv (show H 0 * H 1 * H 2 < 2 ^ 63 by omega) (show 0 < H 0 by omega) (by omega), r1, lN_mul, ltt]
  have h1 : (zL S2 13 0 (lN (pt 3 w Sh 0 g * (H 0 * H 1 * H 2 / H 0)))).1 5 1 = nI (H 1) := C2.2.2.2.1 1 (by omega)
  have e1 : (zL S2 13 0 (lN (pt 3 w Sh 0 g * (H 0 * H 1 * H 2 / H 0)))).2 13 1 = lN (pt 3 w Sh 1 g) := by rw [zL_rd, if_neg (fun k => by omega)]; exact r2
  rw [if_pos (by decide), if_pos (by decide), h1, nI_l (show H 1 < 2 ^ 31 by omega), if_neg (fun k => by have := (lN_0' (show H 1 < 2 ^ 63 by omega)).mp k; omega), if_pos (by decide), pk_lDiv (show H 0 * H 1 * H 2 < 2 ^ 63 by omega) (show 0 < H 1 by omega) (by omega), e1, lN_mul, ltt, if_pos (by decide)]
  have h2 : (zL (zL S2 13 0 (lN (pt 3 w Sh 0 g * (H 0 * H 1 * H 2 / H 0)))) 13 1 (lN (pt 3 w Sh 1 g * (H 0 * H 1 * H 2 / H 1)))).1 5 2 = nI (H 2) := C2.2.2.2.1 2 (by omega)
  have e2 : (zL (zL S2 13 0 (lN (pt 3 w Sh 0 g * (H 0 * H 1 * H 2 / H 0)))) 13 1 (lN (pt 3 w Sh 1 g * (H 0 * H 1 * H 2 / H 1)))).2 13 2 = lN (pt 3 w Sh 2 g) := by rw [zL_rd, if_neg (fun k => by omega), zL_rd, if_neg (fun k => by omega)]; exact r3
  rw [if_pos (by decide), if_pos (by decide), h2, nI_l (show H 2 < 2 ^ 31 by omega), if_neg (fun k => by have := (lN_0' (show H 2 < 2 ^ 63 by omega)).mp k; omega), if_pos (by decide), pk_lDiv (show H 0 * H 1 * H 2 < 2 ^ 63 by omega) (show 0 < H 2 by omega) (by omega), e2, lN_mul, ltt]
theorem p7_isParted2 (D : dat m g A H Sh) (C : mW S m g A H Sh) {t a b c : Nat} (ht : t < 8) (y : cyc a b c) (ha : a < m) (hb' : b < m) (e3 : ((3 : Int32) - nI a) - nI b = nI c) : fnd m g A H Sh t S (f7_isParted (nI t) (nI a) (nI b) (-1) S) (fun R => ∃ w, w < 2 ^ g ∧ R = rP2 g H Sh a b w) := by
  have yy := y
  obtain ⟨y1, y2, y3, y4, y5, y6⟩ := y
  have hb := D.2.2.1
  have b0 := hb a ha
  have b1 := hb b hb'
  have m01 : H a * H b ≤ 99 * 99 := Nat.mul_le_mul b0.2 b1.2
  have q0 : H a * H b / H a ≤ 99 := by rw [Nat.mul_comm, Nat.mul_div_cancel _ (by omega)]; omega
  have q1 : H a * H b / H b ≤ 99 := by rw [Nat.mul_div_cancel _ (by omega)]; omega
  unfold f7_isParted
  rw [if_neg (by decide), show (2 : Int32) = nI 2 from rfl]
  refine p7_ways D C ht yy (Or.inl rfl) (fun h => by omega) (rP2 g H Sh a b) (fun k43 w S2 hw hf hr => ?_)
  have C2 := mW_fr C hf
  obtain ⟨r1, r2, r3⟩ := hr
  have p0 : pt 2 w Sh 0 g * (H a * H b / H a) ≤ 120 * 99 := Nat.mul_le_mul (pt_le D) q0
  have p1 : pt 2 w Sh 1 g * (H a * H b / H b) ≤ 120 * 99 := Nat.mul_le_mul (pt_le D) q1
  refine ⟨_, ((hf.tr (mfr.L (k := 13) (j := a) (Or.inr rfl))).tr (mfr.L (k := 13) (j := b) (Or.inr rfl))).tr (mfr.L (k := 13) (j := c) (Or.inr rfl)), row3 yy (x := pt 2 w Sh 0 g * (H a * H b / H a)) (y' := pt 2 w Sh 1 g * (H a * H b / H b)) (z := 1) (by omega) (by omega) (by omega), ?_⟩
  unfold pfin f7_isParted_174
  rw [if_pos (inb_nI y1 (by decide)), if_pos (inb_nI y2 (by decide)), if_neg (by decide), ltt, nI_clamp (show a < 2 ^ 31 by omega), nI_clamp (show b < 2 ^ 31 by omega), C2.2.2.2.1 a ha, C2.2.2.2.1 b hb', nI_l (show H a < 2 ^ 31 by omega), nI_l (show H b < 2 ^ 31 by omega), lN_mul, show (1 : Int32).toInt64 = lN 1 from rfl, lN_mul, Nat.mul_one]
  rw [if_pos (inb_nI y1 (by decide)), if_pos (inb_nI y1 (by decide)), if_neg (fun k => by have := (lN_0' (show H a < 2 ^ 63 by omega)).mp k; omega), if_pos (inb_nI y1 (by decide)), pk_lDiv (show H a * H b < 2 ^ 63 by omega) (show 0 < H a by omega) (by omega), r1, lN_mul, ltt]
  have h1 : (zL S2 13 a (lN (pt 2 w Sh 0 g * (H a * H b / H a)))).1 5 b = nI (H b) := C2.2.2.2.1 b hb'
  have e1 : (zL S2 13 a (lN (pt 2 w Sh 0 g * (H a * H b / H a)))).2 13 b = lN (pt 2 w Sh 1 g) := by rw [zL_rd, if_neg (fun k => by omega)]; exact r2
  rw [if_pos (inb_nI y2 (by decide)), if_pos (inb_nI y2 (by decide)), h1, nI_l (show H b < 2 ^ 31 by omega), if_neg (fun k => by have := (lN_0' (show H b < 2 ^ 63 by omega)).mp k; omega), if_pos (inb_nI y2 (by decide)), pk_lDiv (show H a * H b < 2 ^ 63 by omega) (show 0 < H b by omega) (by omega), e1, lN_mul, ltt, if_neg (by decide), e3, if_pos (inb_nI y3 (by decide)), ltt, nI_clamp (show c < 2 ^ 31 by omega)]
  rfl
end M4
