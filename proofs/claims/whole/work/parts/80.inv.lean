/-! what both worlds share -/
def iR (C M : Zs) : Prop := ∀ r, r < 8 → (C.1 12 r = -1 ∧ M.1 1 r = -1) ∨ ∃ n l, n ≤ 40 ∧ l ≤ 2 ∧ C.1 12 r = nI n ∧ M.1 2 r = nI n ∧ C.1 11 r = nI l ∧ M.1 1 r = nI l ∧ ∀ i, i < n → C.1 (3 + r) i = M.1 3 (40 * r + i)
def iT (C M : Zs) : Prop := ∃ n, n ≤ 400 ∧ C.1 13 1 = nI n ∧ M.1 0 16 = nI n ∧ C.1 13 2 = M.1 0 17 ∧ ∀ k, k < n → ∃ v, v < 256 ∧ M.1 10 k = nI v ∧ C.1 14 k = (nI v).toInt8.toInt32
def iH (C M : Zs) (m g : Nat) (Sh : Nat → Nat) : Prop := (C.1 0 10 = 0 ∧ M.1 0 25 = 0) ∨ (C.1 0 10 = 1 ∧ M.1 0 25 = 1 ∧ ∃ A H W, dat m g A H Sh ∧ cW C 46 m g A H Sh ∧ cG C 53 m W ∧ restN m g A H Sh W ∧ ∀ l q, l < m → q < g → M.2 15 (6 * l + q) = lN (frc (W l) (lst (m - 1) (fun k => W k * A k q)) 0) ∧ M.2 16 (6 * l + q) = lN (frc (W l) (lst (m - 1) (fun k => W k * A k q)) 1))
def iV (C M : Zs) (m g : Nat) (A : Nat → Nat → Nat) (H Sh W : Nat → Nat) : Prop := dat m g A H Sh ∧ cW C 37 m g A H Sh ∧ cG C 44 m W ∧ restN m g A H Sh W ∧ mW M m g A H Sh ∧ mK M m g A H Sh ∧ iH C M m g Sh
def iN (C M : Zs) : Prop := C.1 37 0 = 0 ∧ C.1 37 1 = 0 ∧ M.1 0 5 = 0 ∧ M.1 0 6 = 0 ∧ C.1 0 10 = 0 ∧ M.1 0 25 = 0 ∧ M.1 0 29 = 0
def iW (C M : Zs) : Prop := iN C M ∨ ∃ m g A H Sh W, iV C M m g A H Sh W
def iX (C M : Zs) : Prop := ∃ n, n ≤ 16 ∧ C.1 15 1 = nI n ∧ M.1 0 36 = nI n ∧ ∀ i, i < n → C.1 16 i = M.1 17 i
def iS (C M : Zs) : Prop := C.1 0 11 = M.1 0 1
def II (C M : Zs) : Prop := iR C M ∧ iT C M ∧ iW C M ∧ iX C M ∧ iS C M
section IF
variable {C M C' M' : Zs}
theorem iR_fr (h : iR C M) (hC : ∀ a, 3 ≤ a → a ≤ 12 → C'.1 a = C.1 a) (hM : ∀ a, 1 ≤ a → a ≤ 3 → M'.1 a = M.1 a) : iR C' M' := by
  intro r hr
  rw [hC 12 (by omega) (by omega), hC 11 (by omega) (by omega), hC (3 + r) (by omega) (by omega), hM 1 (by omega) (by omega), hM 2 (by omega) (by omega), hM 3 (by omega) (by omega)]
  exact h r hr
theorem iT_fr (h : iT C M) (c1 : C'.1 13 1 = C.1 13 1) (c2 : C'.1 13 2 = C.1 13 2) (c3 : C'.1 14 = C.1 14) (m1 : M'.1 0 16 = M.1 0 16) (m2 : M'.1 0 17 = M.1 0 17) (m3 : M'.1 10 = M.1 10) : iT C' M' := by
  unfold iT
  rw [c1, c2, c3, m1, m2, m3]
  exact h
theorem iX_fr (h : iX C M) (c1 : C'.1 15 1 = C.1 15 1) (c2 : C'.1 16 = C.1 16) (m1 : M'.1 0 36 = M.1 0 36) (m2 : M'.1 17 = M.1 17) : iX C' M' := by
  unfold iX
  rw [c1, c2, m1, m2]
  exact h
theorem iS_fr (h : iS C M) (c1 : C'.1 0 11 = C.1 0 11) (m1 : M'.1 0 1 = M.1 0 1) : iS C' M' := by
  unfold iS
  rw [c1, m1]
  exact h
/-- the cells of a World, and its wages -/
def sameW (S S' : Zs) (o : Nat) : Prop := (∀ a, o ≤ a → a < o + 7 → S'.1 a = S.1 a) ∧ S'.2 (o + 7) = S.2 (o + 7)
theorem sameW.rf {S : Zs} {o : Nat} : sameW S S o := ⟨fun _ _ _ => rfl, rfl⟩
theorem sameW.tr {S S' S'' : Zs} {o : Nat} (h : sameW S S' o) (h' : sameW S' S'' o) : sameW S S'' o := ⟨fun a h1 h2 => (h'.1 a h1 h2).trans (h.1 a h1 h2), h'.2.trans h.2⟩
theorem cW_same {S S' : Zs} {o m g : Nat} {A : Nat → Nat → Nat} {H Sh : Nat → Nat} (c : cW S o m g A H Sh) (hm : m ≤ 3) (h : sameW S S' o) : cW S' o m g A H Sh :=
  ⟨by rw [h.1 o (by omega) (by omega)]; exact c.1, by rw [h.1 o (by omega) (by omega)]; exact c.2.1, fun q hq => by rw [h.1 (o + 1) (by omega) (by omega)]; exact c.2.2.1 q hq, fun l hl => by rw [h.1 (o + 2) (by omega) (by omega)]; exact c.2.2.2.1 l hl, fun l q hl hq => by rw [h.1 (o + 4 + l) (by omega) (by omega)]; exact c.2.2.2.2 l q hl hq⟩
theorem cG_same {S S' : Zs} {o m : Nat} {W : Nat → Nat} (c : cG S (o + 7) m W) (h : sameW S S' o) : cG S' (o + 7) m W := fun l hl => by rw [h.2]; exact c l hl
theorem iH_fr {m g : Nat} {Sh : Nat → Nat} (h : iH C M m g Sh) (c1 : C'.1 0 10 = C.1 0 10) (c2 : sameW C C' 46) (m1 : M'.1 0 25 = M.1 0 25) (m2 : M'.2 15 = M.2 15) (m3 : M'.2 16 = M.2 16) : iH C' M' m g Sh := by
  rcases h with h | ⟨h1, h2, A, H, W, h3, h4, h5, h6, h7⟩
  · left
    rw [c1, m1]
    exact h
  · right
    rw [c1, m1, m2, m3]
    exact ⟨h1, h2, A, H, W, h3, cW_same h4 h3.1.2 c2, cG_same (o := 46) h5 c2, h6, h7⟩
theorem mW_fr2 {S S' : Zs} {m g : Nat} {A : Nat → Nat → Nat} {H Sh : Nat → Nat} (c : mW S m g A H Sh) (h1 : S'.1 0 5 = S.1 0 5) (h2 : S'.1 0 6 = S.1 0 6) (h3 : ∀ a, 4 ≤ a → a ≤ 6 → S'.1 a = S.1 a) : mW S' m g A H Sh :=
  ⟨by rw [h1]; exact c.1, by rw [h2]; exact c.2.1, fun q hq => by rw [h3 4 (by omega) (by omega)]; exact c.2.2.1 q hq, fun l hl => by rw [h3 5 (by omega) (by omega)]; exact c.2.2.2.1 l hl, fun l q hl hq => by rw [h3 6 (by omega) (by omega)]; exact c.2.2.2.2 l q hl hq⟩
theorem iV_fr {m g : Nat} {A : Nat → Nat → Nat} {H Sh W : Nat → Nat} (h : iV C M m g A H Sh W) (c1 : C'.1 0 10 = C.1 0 10) (c2 : sameW C C' 46) (c3 : sameW C C' 37) (m0 : ∀ b, 2 ≤ b → b ≤ 29 → M'.1 0 b = M.1 0 b) (m1 : ∀ a, 4 ≤ a → a ≤ 6 → M'.1 a = M.1 a) (m2 : ∀ a, 14 ≤ a → a ≤ 16 → M'.2 a = M.2 a) : iV C' M' m g A H Sh W := by
  obtain ⟨h1, h2, h3, h4, h5, h6, h7⟩ := h
  refine ⟨h1, cW_same h2 h1.1.2 c3, cG_same (o := 37) h3 c3, h4, mW_fr2 h5 (m0 5 (by omega) (by omega)) (m0 6 (by omega) (by omega)) m1, ?_, iH_fr h7 c1 c2 (m0 25 (by omega) (by omega)) (m2 15 (by omega) (by omega)) (m2 16 (by omega) (by omega))⟩
  rcases h6 with z | ⟨z, R, x1, x2⟩
  · left; rw [m0 29 (by omega) (by omega)]; exact z
  · right; rw [m0 29 (by omega) (by omega)]; exact ⟨z, R, fun l hl => by rw [m2 14 (by omega) (by omega)]; exact x1 l hl, x2⟩
theorem iW_fr (h : iW C M) (c1 : C'.1 0 10 = C.1 0 10) (c2 : sameW C C' 46) (c3 : sameW C C' 37) (m0 : ∀ b, 2 ≤ b → b ≤ 29 → M'.1 0 b = M.1 0 b) (m1 : ∀ a, 4 ≤ a → a ≤ 6 → M'.1 a = M.1 a) (m2 : ∀ a, 14 ≤ a → a ≤ 16 → M'.2 a = M.2 a) : iW C' M' := by
  rcases h with ⟨h1, h2, h3, h4, h5, h6, h7⟩ | ⟨m, g, A, H, Sh, W, h⟩
  · left
    refine ⟨by rw [c3.1 37 (by omega) (by omega)]; exact h1, by rw [c3.1 37 (by omega) (by omega)]; exact h2, by rw [m0 5 (by omega) (by omega)]; exact h3, by rw [m0 6 (by omega) (by omega)]; exact h4, by rw [c1]; exact h5, by rw [m0 25 (by omega) (by omega)]; exact h6, by rw [m0 29 (by omega) (by omega)]; exact h7⟩
  · exact Or.inr ⟨m, g, A, H, Sh, W, iV_fr h c1 c2 c3 m0 m1 m2⟩
/-- the reference's cells that say nothing to others -/
def mst (M M' : Zs) : Prop := (∀ b, b ≠ 0 → M'.1 0 b = M.1 0 b) ∧ (∀ a, a ≠ 0 → a ≠ 12 → M'.1 a = M.1 a) ∧ ∀ a, a ≠ 0 → a ≠ 11 → a ≠ 13 → M'.2 a = M.2 a
theorem mst.rf {M : Zs} : mst M M := ⟨fun _ _ => rfl, fun _ _ _ => rfl, fun _ _ _ _ => rfl⟩
theorem mst.tr {M M' M'' : Zs} (h : mst M M') (h' : mst M' M'') : mst M M'' := ⟨fun b e => (h'.1 b e).trans (h.1 b e), fun a e1 e2 => (h'.2.1 a e1 e2).trans (h.2.1 a e1 e2), fun a e1 e2 e3 => (h'.2.2 a e1 e2 e3).trans (h.2.2 a e1 e2 e3)⟩
theorem mst.t0 {M : Zs} {v : Int32} : mst M (zI M 0 0 v) := ⟨fun b e => by rw [zI_rd, if_neg (fun q => e q.2)], fun a e1 _ => zI_1n _ _ _ e1, fun _ _ _ _ => rfl⟩
theorem mfr.st {M M' : Zs} (h : mfr M M') : mst M M' := ⟨fun b _ => by rw [h.1 0 (by decide)], fun a _ e => h.1 a e, fun a _ e1 e2 => h.2 a e1 e2⟩
theorem II_st (h : II C M) (k : mst M M') : II C M' := by
  obtain ⟨h1, h2, h3, h4, h5⟩ := h
  refine ⟨iR_fr h1 (fun _ _ _ => rfl) (fun a x1 x2 => k.2.1 a (by omega) (by omega)), iT_fr h2 rfl rfl rfl (k.1 _ (by decide)) (k.1 _ (by decide)) (k.2.1 _ (by decide) (by decide)), iW_fr h3 rfl sameW.rf sameW.rf (fun b x1 x2 => k.1 b (by omega)) (fun a x1 x2 => k.2.1 a (by omega) (by omega)) (fun a x1 x2 => k.2.2 a (by omega) (by omega) (by omega)), iX_fr h4 rfl rfl (k.1 _ (by decide)) (k.2.1 _ (by decide) (by decide)), iS_fr h5 rfl (k.1 _ (by decide))⟩
theorem II_t0 (h : II C M) : II C (zI M 0 0 0) := II_st h mst.t0
/-- the class's scratch: all but what is told below -/
def cst (C C' : Zs) : Prop := (∀ a, (a < 18 ∨ (37 ≤ a ∧ a ≤ 43) ∨ (46 ≤ a ∧ a ≤ 52)) → C'.1 a = C.1 a) ∧ C'.2 44 = C.2 44 ∧ C'.2 53 = C.2 53
theorem cst.rf {C : Zs} : cst C C := ⟨fun _ _ => rfl, rfl, rfl⟩
theorem cst.tr {C C' C'' : Zs} (h : cst C C') (h' : cst C' C'') : cst C C'' := ⟨fun a e => (h'.1 a e).trans (h.1 a e), h'.2.1.trans h.2.1, h'.2.2.trans h.2.2⟩
theorem II_cst (h : II C M) (k : cst C C') : II C' M := by
  obtain ⟨h1, h2, h3, h4, h5⟩ := h
  refine ⟨iR_fr h1 (fun a x1 x2 => k.1 a (by omega)) (fun _ _ _ => rfl), iT_fr h2 (by rw [k.1 13 (by omega)]) (by rw [k.1 13 (by omega)]) (k.1 14 (by omega)) rfl rfl rfl, iW_fr h3 (by rw [k.1 0 (by omega)]) ⟨fun a x1 x2 => k.1 a (by omega), k.2.2⟩ ⟨fun a x1 x2 => k.1 a (by omega), k.2.1⟩ (fun _ _ _ => rfl) (fun _ _ _ => rfl) (fun _ _ _ => rfl), iX_fr h4 (by rw [k.1 15 (by omega)]) (k.1 16 (by omega)) rfl rfl, iS_fr h5 (by rw [k.1 0 (by omega)]) rfl⟩
/-- restAll keeps all -/
theorem II_rest {m g : Nat} {A : Nat → Nat → Nat} {H Sh W : Nat → Nat} (h : II C M) (v : iV C M m g A H Sh W) : ∃ M' R, f7_restAll M = some M' ∧ II C M' ∧ iV C M' m g A H Sh W ∧ mfa M M' ∧ cG M' 11 3 R ∧ (∀ l, l < 3 → 1 ≤ R l) ∧ restN m g A H Sh R := by
  obtain ⟨v1, v2, v3, v4, v5, v6, v7⟩ := v
  obtain ⟨M', R, a1, a2, a3, a4, a5, a6, a7⟩ := p7_restAll v1 v5 v6 v4
  have f0 : ∀ b, b ≠ 29 → M'.1 0 b = M.1 0 b := fun b e => a2.1 0 b (by decide) (fun q => e q.2)
  have f1 : ∀ a, a ≠ 0 → a ≠ 12 → M'.1 a = M.1 a := fun a e1 e2 => funext fun b => a2.1 a b e2 (fun q => e1 q.1)
  have v' : iV C M' m g A H Sh W := ⟨v1, v2, v3, v4, mW_fa v5 a2, Or.inr ⟨a5, R, a4, a6, a7⟩, iH_fr v7 rfl sameW.rf (f0 25 (by decide)) (a2.2 15 (by decide) (by decide) (by decide)) (a2.2 16 (by decide) (by decide) (by decide))⟩
  refine ⟨M', R, a1, ?_, v', a2, a3, a6, a7⟩
  obtain ⟨h1, h2, h3, h4, h5⟩ := h
  exact ⟨iR_fr h1 (fun _ _ _ => rfl) (fun a x1 x2 => f1 a (by omega) (by omega)), iT_fr h2 rfl rfl rfl (f0 16 (by decide)) (f0 17 (by decide)) (f1 10 (by decide) (by decide)), Or.inr ⟨m, g, A, H, Sh, W, v'⟩, iX_fr h4 rfl rfl (f0 36 (by decide)) (f1 17 (by decide) (by decide)), iS_fr h5 rfl (f0 1 (by decide))⟩
end IF
section PR
variable {m g : Nat} {A : Nat → Nat → Nat} {H Sh W R : Nat → Nat}
theorem le_prop (p1 : ∀ l, l < m → 1 ≤ W l) (p : ∀ l k, l < m → k < m → W l * R k = W k * R l) {l k : Nat} (hl : l < m) (hk : k < m) {x y : Nat} (h : W l * x ≤ W k * y) : R l * x ≤ R k * y := by
  refine m_cancel (p1 l hl) ?_
  have e := p l k hl hk
  have a1 := Nat.mul_le_mul_left (R l) h
  have e2 : R l * (W k * y) = W l * (R k * y) := by
    rw [← Nat.mul_assoc, ← Nat.mul_assoc, Nat.mul_comm (R l), e]
  rw [e2] at a1
  rw [← Nat.mul_assoc, Nat.mul_comm (W l), Nat.mul_assoc]
  exact a1
theorem rest_p (D : dat m g A H Sh) (hW : restN m g A H Sh W) (hR : restN m g A H Sh R) : ∀ l k, l < m → k < m → W l * R k = W k * R l := fun l k hl hk => by
  have := restN_one D hR hW (l := l) (k := k) hl hk
  exact this
theorem rest_p' (D : dat m g A H Sh) (hW : restN m g A H Sh W) (hR : restN m g A H Sh R) : ∀ l k, l < m → k < m → R l * W k = R k * W l := fun l k hl hk => restN_one D hW hR hl hk
theorem mkrs_rest (D : dat m g A H Sh) (hW : restN m g A H Sh W) (hR : restN m g A H Sh R) (q : Nat) : mkrs m A W q = mkrs m A R q := by
  apply Nat.eq_of_testBit_eq
  intro l
  have e : (mkrs m A W q).testBit l = true ↔ (mkrs m A R q).testBit l = true := by
    rw [mk_iff D.1, mk_iff D.1]
    constructor
    · rintro ⟨h1, h2⟩
      exact ⟨h1, fun k hk => le_prop hW.1 (rest_p D hW hR) h1 hk (h2 k hk)⟩
    · rintro ⟨h1, h2⟩
      exact ⟨h1, fun k hk => le_prop hR.1 (rest_p' D hW hR) h1 hk (h2 k hk)⟩
  cases h1 : (mkrs m A W q).testBit l <;> cases h2 : (mkrs m A R q).testBit l <;> simp_all
theorem lst_rest (D : dat m g A H Sh) (hW : restN m g A H Sh W) (hR : restN m g A H Sh R) {q l : Nat} (hl : l < m) : lst (m - 1) (fun k => W k * A k q) * R l = lst (m - 1) (fun k => R k * A k q) * W l := by
  have d1 := D.1
  obtain ⟨i, hi, ei⟩ := lst_in (n := m - 1) (c := fun k => W k * A k q)
  have mn : ∀ k, k < m → R i * A i q ≤ R k * A k q := fun k hk => le_prop hW.1 (rest_p D hW hR) (by omega) hk (by
    have := lst_le (n := m - 1) (c := fun k => W k * A k q) k (by omega)
    rw [ei] at this
    exact this)
  have e2 : lst (m - 1) (fun k => R k * A k q) = R i * A i q := by
    obtain ⟨j, hj, ej⟩ := lst_in (n := m - 1) (c := fun k => R k * A k q)
    have x1 := lst_le (n := m - 1) (c := fun k => R k * A k q) i (by omega)
    have x2 := mn j (by omega)
    try dsimp only at *
    omega
  rw [ei, e2]
  have e := rest_p D hW hR i l (by omega) hl
  try dsimp only
  grind
theorem lst_pos (D : dat m g A H Sh) (hW : ∀ l, l < m → 1 ≤ W l) {q : Nat} (hq : q < g) : 1 ≤ lst (m - 1) (fun k => W k * A k q) := by
  have d1 := D.1
  obtain ⟨i, hi, ei⟩ := lst_in (n := m - 1) (c := fun k => W k * A k q)
  rw [ei]
  exact Nat.mul_pos (hW i (by omega)) (D.2.2.2.2 i q (by omega) hq).1
theorem lst_bd {S : Zs} {w : Nat} (D : dat m g A H Sh) (G : cG S w m W) {q : Nat} (hq : q < g) : lst (m - 1) (fun k => W k * A k q) ≤ 200000000 := by
  have d1 := D.1
  obtain ⟨i, hi, ei⟩ := lst_in (n := m - 1) (c := fun k => W k * A k q)
  rw [ei]
  exact costb D G (by omega) hq
end PR
