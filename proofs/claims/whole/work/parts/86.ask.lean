/-! ask -/
def adC (v : Int32) (S : Zs) : Zs := if (16 : Int32) ≤ S.1 15 1 then S else zI (zI S 16 (S.1 15 1).toNatClampNeg v) 15 1 (S.1 15 1 + 1)
def adM (v : Int32) (S : Zs) : Zs := if (16 : Int32) ≤ S.1 0 36 then S else zI (zI S 17 (S.1 0 36).toNatClampNeg v) 0 36 (S.1 0 36 + 1)
def tC (S : Zs) : Prop := ∃ n, n ≤ 16 ∧ S.1 15 1 = nI n
def tM (S : Zs) : Prop := ∃ n, n ≤ 16 ∧ S.1 0 36 = nI n
theorem le16 {n : Nat} (h : n ≤ 16) : (16 : Int32) ≤ nI n ↔ 16 ≤ n := nI_leI (a := 16) (by decide) (by omega)
section AK
variable {C M : Zs} {m g : Nat} {A : Nat → Nat → Nat} {H Sh W R : Nat → Nat}
theorem p4_add (t : tC C) (v : Int32) : f4_add v C = some (adC v C) := by
  obtain ⟨n, hn, e⟩ := t
  unfold f4_add adC
  rw [e]
  by_cases c : 16 ≤ n
  · rw [if_pos ((le16 hn).mpr c), if_pos ((le16 hn).mpr c)]
  · rw [if_neg (fun k => c ((le16 hn).mp k)), if_neg (fun k => c ((le16 hn).mp k)), if_pos (inb_nI (by omega) (by decide)), ltt, ltt, zI_1n _ _ _ (show 15 ≠ 16 by decide), e]
theorem p7_beg (t : tM M) (v : Int32) : f7_began v M = some (adM v M) := by
  obtain ⟨n, hn, e⟩ := t
  unfold f7_began adM
  rw [e]
  by_cases c : 16 ≤ n
  · rw [if_pos ((le16 hn).mpr c), if_pos ((le16 hn).mpr c)]
  · rw [if_neg (fun k => c ((le16 hn).mp k)), if_neg (fun k => c ((le16 hn).mp k)), if_pos (inb_nI (by omega) (by decide)), ltt, ltt, zI_1n _ _ _ (show 0 ≠ 17 by decide), e]
theorem adC_fr (v : Int32) (S : Zs) : (∀ a, a ≠ 15 → a ≠ 16 → (adC v S).1 a = S.1 a) ∧ (adC v S).2 = S.2 := by
  unfold adC
  by_cases c : (16 : Int32) ≤ S.1 15 1
  · rw [if_pos c]
    exact ⟨fun _ _ _ => rfl, rfl⟩
  · rw [if_neg c]
    exact ⟨fun a h1 h2 => by rw [zI_1n _ _ _ h1, zI_1n _ _ _ h2], rfl⟩
theorem adM_fr (v : Int32) (S : Zs) : (∀ b, b ≠ 36 → (adM v S).1 0 b = S.1 0 b) ∧ (∀ a, a ≠ 0 → a ≠ 17 → (adM v S).1 a = S.1 a) ∧ (adM v S).2 = S.2 := by
  unfold adM
  by_cases c : (16 : Int32) ≤ S.1 0 36
  · rw [if_pos c]
    exact ⟨fun _ _ => rfl, fun _ _ _ => rfl, rfl⟩
  · rw [if_neg c]
    exact ⟨fun b h => by rw [zI_rd, if_neg (fun q => h q.2), zI_1n _ _ _ (by decide)], fun a h1 h2 => by rw [zI_1n _ _ _ h1, zI_1n _ _ _ h2], rfl⟩
theorem iX_ad (h : iX C M) (v : Int32) : iX (adC v C) (adM v M) := by
  obtain ⟨n, h1, h2, h3, h4⟩ := h
  unfold adC adM
  rw [h2, h3]
  by_cases c : 16 ≤ n
  · rw [if_pos ((le16 h1).mpr c), if_pos ((le16 h1).mpr c)]
    exact ⟨n, h1, h2, h3, h4⟩
  · rw [if_neg (fun k => c ((le16 h1).mp k)), if_neg (fun k => c ((le16 h1).mp k)), nI_clamp (by omega)]
    refine ⟨n + 1, by omega, ?_, ?_, fun i hi => ?_⟩
    · rw [zI_rd, if_pos ⟨rfl, rfl⟩]; exact nI_1 _
    · rw [zI_rd, if_pos ⟨rfl, rfl⟩]; exact nI_1 _
    · rw [zI_1n _ _ _ (show 16 ≠ 15 by decide), zI_1n _ _ _ (show 17 ≠ 0 by decide), zI_rd, zI_rd]
      by_cases e : i = n
      · rw [if_pos ⟨rfl, e⟩, if_pos ⟨rfl, e⟩]
      · rw [if_neg (fun q => e q.2), if_neg (fun q => e q.2)]
        exact h4 i (by omega)
theorem II_ad (h : II C M) (v : Int32) : II (adC v C) (adM v M) := by
  obtain ⟨h1, h2, h3, h4, h5⟩ := h
  obtain ⟨c1, c2⟩ := adC_fr v C
  obtain ⟨m0, m1, m2⟩ := adM_fr v M
  refine ⟨iR_fr h1 (fun a _ _ => c1 a (by omega) (by omega)) (fun a _ _ => m1 a (by omega) (by omega)), iT_fr h2 (by rw [c1 13 (by decide) (by decide)]) (by rw [c1 13 (by decide) (by decide)]) (c1 14 (by decide) (by decide)) (m0 _ (by decide)) (m0 _ (by decide)) (m1 10 (by decide) (by decide)), iW_fr h3 (by rw [c1 0 (by decide) (by decide)]) ⟨fun a _ _ => c1 a (by omega) (by omega), by rw [c2]⟩ ⟨fun a _ _ => c1 a (by omega) (by omega), by rw [c2]⟩ (fun b _ _ => m0 b (by omega)) (fun a _ _ => m1 a (by omega) (by omega)) (fun a _ _ => by rw [m2]), iX_ad h4 v, iS_fr h5 (by rw [c1 0 (by decide) (by decide)]) (m0 _ (by decide))⟩
theorem II_te (h : II C M) : II (zI C 15 1 0) (zI M 0 36 0) := by
  obtain ⟨h1, h2, h3, h4, h5⟩ := h
  refine ⟨iR_fr h1 (fun a _ _ => zI_1n _ _ _ (by omega)) (fun a _ _ => zI_1n _ _ _ (by omega)), iT_fr h2 (by rw [zI_1n _ _ _ (by decide)]) (by rw [zI_1n _ _ _ (by decide)]) (zI_1n _ _ _ (by decide)) (by rw [zI_rd, if_neg (by decide)]) (by rw [zI_rd, if_neg (by decide)]) (zI_1n _ _ _ (by decide)), iW_fr h3 (by rw [zI_1n _ _ _ (by decide)]) ⟨fun a _ _ => zI_1n _ _ _ (by omega), rfl⟩ ⟨fun a _ _ => zI_1n _ _ _ (by omega), rfl⟩ (fun b _ _ => by rw [zI_rd, if_neg (by omega)]) (fun a _ _ => zI_1n _ _ _ (by omega)) (fun a _ _ => rfl), ⟨0, by decide, by rw [zI_rd, if_pos ⟨rfl, rfl⟩]; rfl, by rw [zI_rd, if_pos ⟨rfl, rfl⟩]; rfl, fun i hi => by omega⟩, iS_fr h5 (by rw [zI_1n _ _ _ (by decide)]) (by rw [zI_rd, if_neg (by decide)])⟩
theorem iV_te (v : iV C M m g A H Sh W) : iV (zI C 15 1 0) (zI M 0 36 0) m g A H Sh W :=
  iV_fr v (by rw [zI_1n _ _ _ (by decide)]) ⟨fun a _ _ => zI_1n _ _ _ (by omega), rfl⟩ ⟨fun a _ _ => zI_1n _ _ _ (by omega), rfl⟩ (fun b _ _ => by rw [zI_rd, if_neg (by omega)]) (fun a _ _ => zI_1n _ _ _ (by omega)) (fun a _ _ => rfl)
/-- what the class's bodies stand on -/
def qC (C : Zs) (m g : Nat) (A : Nat → Nat → Nat) (H Sh W : Nat → Nat) : Prop := dat m g A H Sh ∧ cW C 37 m g A H Sh ∧ cG C 44 m W ∧ tC C
def qM (M : Zs) (m g : Nat) (A : Nat → Nat → Nat) (H Sh R : Nat → Nat) : Prop := dat m g A H Sh ∧ mW M m g A H Sh ∧ cG M 11 3 R ∧ tM M
theorem qC.ad (K : qC C m g A H Sh W) (v : Int32) : qC (adC v C) m g A H Sh W := by
  obtain ⟨D, c, G, n, h1, h2⟩ := K
  obtain ⟨c1, c2⟩ := adC_fr v C
  refine ⟨D, cW_same c D.1.2 ⟨fun a _ _ => c1 a (by omega) (by omega), by rw [c2]⟩, fun l hl => by rw [c2]; exact G l hl, ?_⟩
  unfold adC
  rw [h2]
  by_cases c : 16 ≤ n
  · rw [if_pos ((le16 h1).mpr c)]
    exact ⟨n, h1, h2⟩
  · rw [if_neg (fun k => c ((le16 h1).mp k))]
    exact ⟨n + 1, by omega, by rw [zI_rd, if_pos ⟨rfl, rfl⟩]; exact nI_1 _⟩
theorem qM.ad (K : qM M m g A H Sh R) (v : Int32) : qM (adM v M) m g A H Sh R := by
  obtain ⟨D, c, G, n, h1, h2⟩ := K
  obtain ⟨m0, m1, m2⟩ := adM_fr v M
  refine ⟨D, mW_fr2 c (m0 5 (by decide)) (m0 6 (by decide)) (fun a _ _ => m1 a (by omega) (by omega)), fun l hl => by rw [m2]; exact G l hl, ?_⟩
  unfold adM
  rw [h2]
  by_cases c : 16 ≤ n
  · rw [if_pos ((le16 h1).mpr c)]
    exact ⟨n, h1, h2⟩
  · rw [if_neg (fun k => c ((le16 h1).mp k))]
    exact ⟨n + 1, by omega, by rw [zI_rd, if_pos ⟨rfl, rfl⟩]; exact nI_1 _⟩
theorem le20 {d : Nat} (h : d ≤ 20) : nI d ≤ (20 : Int32) := nI_le (b := 20) h (by decide)
/-- the only maker -/
def mk1 (b : Nat) : Nat := if b = 1 then 0 else if b = 2 then 1 else 2
theorem mk1_is : ∀ b, b < 8 → bcn b = 1 → ∀ i, i < 3 → b.testBit i = true → i = mk1 b := by decide +kernel
theorem p5_fm (D : dat m g A H Sh) (c : cW C 37 m g A H Sh) (G : cG C 44 m W) {q : Nat} (hq : q < g) : ∀ n i l, i < l → l ≤ m → m - l < n → (∀ j, j < l → W i * A i q ≤ W j * A j q) → ∃ i', f5_firstMaker_4 37 C n (nI q) (nI i) (nI l) = some (nI i') ∧ i' < m ∧ ∀ j, j < m → W i' * A i' q ≤ W j * A j q := by
  have d1 := D.1
  intro n
  induction n with
  | zero => intro i l _ _ h; omega
  | succ n ih =>
    intro i l hi hl hn hm
    unfold f5_firstMaker_4
    rw [c.1]
    by_cases e : m ≤ l
    · rw [if_pos (nI_le e (by omega))]
      exact ⟨i, rfl, by omega, fun j hj => hm j (by omega)⟩
    · rw [if_neg (nI_ge (by omega) (by omega)), show 37 + 7 = 44 from rfl, p5_cost D c G (by omega) hq, bd1s, p5_cost D c G (by omega) hq, bd1s]
      have b1 := costb D G (l := i) (by omega) hq
      have b2 := costb D G (l := l) (by omega) hq
      unfold f5_firstMaker_38
      by_cases k : W i * A i q ≤ W l * A l q
      · rw [if_pos ((pk_lLE (by omega) (by omega)).mpr k), ltt, show nI l + 1 = nI (l + 1) from nI_1 _]
        exact ih i (l + 1) (by omega) (by omega) (by omega) (fun j hj => by
          by_cases e : j = l
          · rw [e]; exact k
          · exact hm j (by omega))
      · rw [if_neg (fun z => k ((pk_lLE (by omega) (by omega)).mp z)), ltt, show nI l + 1 = nI (l + 1) from nI_1 _]
        exact ih l (l + 1) (by omega) (by omega) (by omega) (fun j hj => by
          by_cases e : j = l
          · rw [e]; exact Nat.le_refl _
          · have := hm j (by omega)
            omega)
theorem p5_firstMaker (D : dat m g A H Sh) (c : cW C 37 m g A H Sh) (G : cG C 44 m W) {q : Nat} (hq : q < g) (h1 : bcn (mkrs m A W q) = 1) : f5_firstMaker 37 C (nI q) = some (nI (mk1 (mkrs m A W q))) := by
  have d1 := D.1
  obtain ⟨i, e1, e2, e3⟩ := p5_fm D c G hq fuel0 0 1 (by omega) (by omega) (by unfold fuel0; omega) (fun j hj => by rw [show j = 0 by omega]; exact Nat.le_refl _)
  unfold f5_firstMaker
  rw [show (0 : Int32) = nI 0 from rfl, show (1 : Int32) = nI 1 from rfl, e1, mk1_is _ mkrs_lt h1 i (by omega) ((mk_iff d1).mpr ⟨e2, e3⟩)]
theorem b_10 (K : qC C m g A H Sh W) {q : Nat} (hq : q < g) {n d : Nat} (hn : 1 ≤ n) (hd : d ≤ 20) : f6_bodyN n 10 (nI q) (nI d) C = some (lN (Sh q), adC 10 C) := by
  obtain ⟨n, rfl⟩ : ∃ k, n = k + 1 := ⟨n - 1, by omega⟩
  have K1 := K.ad 10
  have d4 := K.1.2.2.2.1 q hq
  have d2 := K.1.2.1
  unfold f6_bodyN f6_body
  rw [if_pos (le20 hd), p4_add K.2.2.2, bd1s, if_pos rfl, if_pos (inb_nI (by omega) (by decide)), nI_clamp (by omega), K1.2.1.2.2.1 q hq, nI_l (by omega)]
theorem b_20 (K : qC C m g A H Sh W) {q : Nat} (hq : q < g) {n d : Nat} (hn : 1 ≤ n) (hd : d ≤ 20) : f6_bodyN n 20 (nI q) (nI d) C = some (lN q, adC 20 C) := by
  obtain ⟨n, rfl⟩ : ∃ k, n = k + 1 := ⟨n - 1, by omega⟩
  have d2 := K.1.2.1
  unfold f6_bodyN f6_body
  rw [if_pos (le20 hd), p4_add K.2.2.2, bd1s, if_neg (by decide), if_neg (by decide), if_neg (by decide), if_neg (by decide), if_neg (by decide), if_neg (by decide), if_pos rfl, nI_l (by omega)]
theorem b_21 (K : qC C m g A H Sh W) {q : Nat} (hq : q < g) (h1 : bcn (mkrs m A W q) = 1) {n d : Nat} (hn : 2 ≤ n) (hd : d ≤ 19) : f6_bodyN n 21 (nI q) (nI d) C = some (lN (q + 10 * mk1 (mkrs m A W q)), adC 20 (adC 21 C)) := by
  obtain ⟨n, rfl⟩ : ∃ k, n = k + 1 := ⟨n - 1, by omega⟩
  have K1 := K.ad 21
  have K2 := K1.ad 20
  have d2 := K.1.2.1
  have hm1 : mk1 (mkrs m A W q) ≤ 2 := by unfold mk1; split; omega; split <;> omega
  unfold f6_bodyN f6_body
  rw [if_pos (le20 (by omega)), p4_add K.2.2.2, bd1s, if_neg (by decide), if_neg (by decide), if_neg (by decide), if_neg (by decide), if_neg (by decide), if_neg (by decide), if_neg (by decide), if_pos rfl, show nI d + 1 = nI (d + 1) from nI_1 _, b_20 K1 hq (by omega) (by omega), bd2s, p5_firstMaker K2.1 K2.2.1 K2.2.2.1 hq h1, bd1s, show (10 : Int32) = nI 10 from rfl, pk_mul, nI_l (by omega), lN_add]
theorem b_23 (K : qC C m g A H Sh W) {q : Nat} (hq : q < g) (h1 : bcn (mkrs m A W q) = 1) {n d : Nat} (hn : 3 ≤ n) (hd : d ≤ 18) : f6_bodyN n 23 (nI q) (nI d) C = some (lN (q + 10 * mk1 (mkrs m A W q) + 100), adC 20 (adC 21 (adC 23 C))) := by
  obtain ⟨n, rfl⟩ : ∃ k, n = k + 1 := ⟨n - 1, by omega⟩
  have K1 := K.ad 23
  unfold f6_bodyN f6_body
  rw [if_pos (le20 (by omega)), p4_add K.2.2.2, bd1s, if_neg (by decide), if_neg (by decide), if_neg (by decide), if_neg (by decide), if_neg (by decide), if_neg (by decide), if_neg (by decide), if_neg (by decide), if_neg (by decide), if_pos rfl, show nI d + 1 = nI (d + 1) from nI_1 _, b_21 K1 hq h1 (by omega) (by omega), bd2s, show (100 : Int64) = lN 100 from rfl, lN_add]
theorem b_12 (K : qC C m g A H Sh W) {q : Nat} (hq : q < g) {n d : Nat} (hn : 2 ≤ n) (hd : d ≤ 19) : f6_bodyN n 12 (nI q) (nI d) C = some (lN (Sh q * bcn (mkrs m A W q)), adC 10 (adC 12 C)) := by
  obtain ⟨n, rfl⟩ : ∃ k, n = k + 1 := ⟨n - 1, by omega⟩
  have K1 := K.ad 12
  have K2 := K1.ad 10
  have e1 : f5_makersBy 37 44 (adC 10 (adC 12 C)) (nI q) = some (nI (mkrs m A W q)) := p5_makersBy K2.1 K2.2.1 K2.2.2.1 hq
  have hb := bcn_le (mkrs m A W q)
  unfold f6_bodyN f6_body
  rw [if_pos (le20 (by omega)), p4_add K.2.2.2, bd1s, if_neg (by decide), if_neg (by decide), if_pos rfl, show nI d + 1 = nI (d + 1) from nI_1 _, b_10 K1 hq (by omega) (by omega), bd2s, show 37 + 7 = 44 from rfl, e1, bd1s, bc_C _ mkrs_lt, nI_l (by omega), lN_mul]
theorem b_13 (K : qC C m g A H Sh W) {q : Nat} (hq : q < g) {n d : Nat} (hn : 3 ≤ n) (hd : d ≤ 18) : f6_bodyN n 13 (nI q) (nI d) C = some (lN (Sh q * bcn (mkrs m A W q) - 1), adC 10 (adC 12 (adC 13 C))) := by
  obtain ⟨n, rfl⟩ : ∃ k, n = k + 1 := ⟨n - 1, by omega⟩
  have K1 := K.ad 13
  have p : 1 ≤ Sh q * bcn (mkrs m A W q) := Nat.mul_pos (K.1.2.2.2.1 q hq).1 (bcn_1 _ mkrs_lt (mkrs_ne K.1.1))
  unfold f6_bodyN f6_body
  rw [if_pos (le20 (by omega)), p4_add K.2.2.2, bd1s, if_neg (by decide), if_neg (by decide), if_neg (by decide), if_pos rfl, show nI d + 1 = nI (d + 1) from nI_1 _, b_12 K1 hq (by omega) (by omega), bd2s, show (1 : Int64) = lN 1 from rfl, lN_sub p]
theorem c_mark (K : qC C m g A H Sh W) {q k : Nat} (hq : q < g) (hk : kdB (mkrs m A W q) m (dr m A W q) = k) (k5 : k ≤ 5) (kb : Int32 → Int32 → Int32 → Zs → Option (Int64 × Zs)) {d : Nat} : f6_markOf kb (nI q) (nI d) C = kb (zMarks.getD k 0) (nI q) (nI (d + 1)) C := by
  unfold f6_markOf
  rw [p6_kindOf K.1 K.2.1 K.2.2.1 hq, bd1s, hk, if_pos (inb_nI (by omega) (by decide)), nI_clamp (by omega), show nI d + 1 = nI (d + 1) from nI_1 _]
  cases kb (zMarks.getD k 0) (nI q) (nI (d + 1)) C with
  | none => rfl
  | some x => rfl
theorem c_size (K : qC C m g A H Sh W) {q k : Nat} (hq : q < g) (hk : kdB (mkrs m A W q) m (dr m A W q) = k) (k5 : k ≤ 5) (kb : Int32 → Int32 → Int32 → Zs → Option (Int64 × Zs)) {d : Nat} : f6_sizeOf kb (nI q) (nI d) C = kb (zSizes.getD k 0) (nI q) (nI (d + 1)) C := by
  unfold f6_sizeOf
  rw [p6_kindOf K.1 K.2.1 K.2.2.1 hq, bd1s, hk, if_pos (inb_nI (by omega) (by decide)), nI_clamp (by omega), show nI d + 1 = nI (d + 1) from nI_1 _]
  cases kb (zSizes.getD k 0) (nI q) (nI (d + 1)) C with
  | none => rfl
  | some x => rfl
theorem b_22 (K : qC C m g A H Sh W) {q : Nat} (hq : q < g) (hk : kdB (mkrs m A W q) m (dr m A W q) = 3) {n d : Nat} (hn : 4 ≤ n) (hd : d ≤ 15) : f6_bodyN n 22 (nI q) (nI d) C = some (lN (q + (Sh q * bcn (mkrs m A W q) - 1)), adC 10 (adC 12 (adC 13 (adC 20 (adC 22 C))))) := by
  obtain ⟨n, rfl⟩ : ∃ k, n = k + 1 := ⟨n - 1, by omega⟩
  have K1 := K.ad 22
  have K2 := K1.ad 20
  unfold f6_bodyN f6_body
  rw [if_pos (le20 (by omega)), p4_add K.2.2.2, bd1s, if_neg (by decide), if_neg (by decide), if_neg (by decide), if_neg (by decide), if_neg (by decide), if_neg (by decide), if_neg (by decide), if_neg (by decide), if_pos rfl, show nI d + 1 = nI (d + 1) from nI_1 _, b_20 K1 hq (by omega) (by omega), bd2s, c_size K2 hq hk (by decide), show zSizes.getD 3 0 = 13 from rfl, b_13 K2 hq (by omega) (by omega), bd2s, lN_add]
/-- 11, by the state and the value that MARK leaves -/
theorem b_11 (K : qC C m g A H Sh W) {q k : Nat} (hq : q < g) (hk : kdB (mkrs m A W q) m (dr m A W q) = k) (k5 : k ≤ 5) {n d x : Nat} {F : Zs} (hn : 1 ≤ n) (hd : d ≤ 16) (hm : f6_bodyN n (zMarks.getD k 0) (nI q) (nI (d + 2)) (adC 10 (adC 11 C)) = some (lN x, F)) : f6_bodyN (n + 1) 11 (nI q) (nI d) C = some (lN (Sh q + x), F) := by
  have K1 := K.ad 11
  have K2 := K1.ad 10
  unfold f6_bodyN f6_body
  rw [if_pos (le20 (by omega)), p4_add K.2.2.2, bd1s, if_neg (by decide), if_pos rfl, show nI d + 1 = nI (d + 1) from nI_1 _, b_10 K1 hq (by omega) (by omega), bd2s, c_mark K2 hq hk k5, show d + 1 + 1 = d + 2 from rfl, hm, bd2s, lN_add]
theorem b_14 (K : qC C m g A H Sh W) {q : Nat} {n d x : Nat} {F : Zs} (hd : d ≤ 16) (hm : f6_bodyN n 11 (nI q) (nI (d + 1)) (adC 14 C) = some (lN x, F)) : f6_bodyN (n + 1) 14 (nI q) (nI d) C = some (lN (x * 2), F) := by
  unfold f6_bodyN f6_body
  rw [if_pos (le20 (by omega)), p4_add K.2.2.2, bd1s, if_neg (by decide), if_neg (by decide), if_neg (by decide), if_neg (by decide), if_pos rfl, show nI d + 1 = nI (d + 1) from nI_1 _, hm, bd2s, show (2 : Int64) = lN 2 from rfl, lN_mul]
theorem b_15 (K : qC C m g A H Sh W) {q k : Nat} (hq : q < g) (hk : kdB (mkrs m A W q) m (dr m A W q) = k) (k5 : k ≤ 5) {n d x y : Nat} {F F' : Zs} (hd : d ≤ 16) (hm : f6_bodyN n 14 (nI q) (nI (d + 1)) (adC 15 C) = some (lN x, F)) (KF : qC F m g A H Sh W) (hm2 : f6_bodyN n (zMarks.getD k 0) (nI q) (nI (d + 2)) F = some (lN y, F')) (hxy : y ≤ x) : f6_bodyN (n + 1) 15 (nI q) (nI d) C = some (lN (x - y), F') := by
  unfold f6_bodyN f6_body
  rw [if_pos (le20 (by omega)), p4_add K.2.2.2, bd1s, if_neg (by decide), if_neg (by decide), if_neg (by decide), if_neg (by decide), if_neg (by decide), if_pos rfl, show nI d + 1 = nI (d + 1) from nI_1 _, hm, bd2s, c_mark KF hq hk k5, show d + 1 + 1 = d + 2 from rfl, hm2, bd2s, lN_sub hxy]
end AK
