/-! set, drop, copy -/
def lnv (l x : Int32) : Int32 := if l = 0 then x.toInt8.toInt32 else if l = 1 then x.toInt16.toInt32 else x
section RV
variable {C M : Zs}
theorem z32 : (0 : Int32).toInt = 0 := rfl
theorem o32 : (1 : Int32).toInt = 1 := rfl
theorem p2_miss1 {r : Nat} (hr : r < 8) (e : C.1 12 r = -1) : f2_isMissing C (nI r) = some 1 := by
  unfold f2_isMissing
  rw [if_pos (inb_nI hr (by decide)), nI_clamp (by omega), if_pos e]
theorem nI_m1 {n : Nat} (hn : n ≤ 400) : ¬ nI n = -1 := fun k => by
  have := congrArg Int32.toInt k
  rw [nI_toInt (by omega), show (-1 : Int32).toInt = -1 by decide] at this
  omega
theorem p2_miss0 {r n : Nat} (hr : r < 8) (hn : n ≤ 40) (e : C.1 12 r = nI n) : f2_isMissing C (nI r) = some 0 := by
  unfold f2_isMissing
  rw [if_pos (inb_nI hr (by decide)), nI_clamp (by omega), e, if_neg (nI_m1 (by omega))]
theorem p2_has {r n : Nat} (hr : r < 8) (hn : n ≤ 40) (e : C.1 12 r = nI n) (x y : Int32) : f2_has C (nI r) x y = some (if 0 ≤ x.toInt ∧ 0 ≤ y.toInt ∧ x.toInt + y.toInt ≤ n then 1 else 0) := by
  unfold f2_has
  rw [nI_clamp (by omega), e]
  have z := z32
  by_cases c0 : x < 0
  · have c := c0
    rw [Int32.lt_iff_toInt_lt] at c
    rw [if_pos c0, if_neg (by omega)]
  by_cases c1 : y < 0
  · have c := c1
    rw [Int32.lt_iff_toInt_lt] at c
    rw [if_neg c0, if_pos c1, if_neg (by omega)]
  rw [if_neg c0, if_neg c1, if_pos (inb_nI hr (by decide))]
  obtain ⟨i, hi, rfl⟩ := nI_of c0
  obtain ⟨k, hk, rfl⟩ := nI_of c1
  rw [nI_toInt hi, nI_toInt hk]
  by_cases c2 : n < k
  · rw [if_pos (nI_lt c2 hk), if_neg (by omega)]
  · rw [if_neg (nI_nlt (by omega) (by omega)), if_pos (inb_nI hr (by decide)), pk_sub (by omega)]
    by_cases c3 : n - k < i
    · rw [if_pos (nI_lt c3 hi), if_neg (by omega)]
    · rw [if_neg (nI_nlt (by omega) (by omega)), if_pos (by omega)]
theorem p2_hasN {r n : Nat} (hr : r < 8) (hn : n ≤ 40) (e : C.1 12 r = nI n) {x y : Int32} (h : ¬ (0 ≤ x.toInt ∧ 0 ≤ y.toInt ∧ x.toInt + y.toInt ≤ n)) : f2_has C (nI r) x y = some 0 := by rw [p2_has hr hn e, if_neg h]
theorem p2_hasY {r n : Nat} (hr : r < 8) (hn : n ≤ 40) (e : C.1 12 r = nI n) {x y : Int32} (h : 0 ≤ x.toInt ∧ 0 ≤ y.toInt ∧ x.toInt + y.toInt ≤ n) : f2_has C (nI r) x y = some 1 := by rw [p2_has hr hn e, if_pos h]
theorem g_ixz {n : Nat} (hn : n < 2 ^ 30) (x : Int32) : (f7_in x.toInt64 0 ((nI n - 1).toInt64) = 0 ∧ ¬ (0 ≤ x.toInt ∧ x.toInt < n)) ∨ ∃ i, i < n ∧ x = nI i ∧ f7_in x.toInt64 0 ((nI n - 1).toInt64) = 1 := by
  rw [show (0 : Int64) = (0 : Int32).toInt64 from rfl, inI]
  have z := z32
  have e : (nI n - 1).toInt = (n : Int) - 1 := pk_sub_toInt (b := 1) hn (by decide)
  rcases pk_ix x (n := n) (by omega) with h | h | ⟨j, hj, rfl⟩
  · left
    rw [if_pos h]
    rw [Int32.lt_iff_toInt_lt] at h
    exact ⟨rfl, by omega⟩
  · left
    rw [Int32.le_iff_toInt_le, nI_toInt (by omega)] at h
    have nn : ¬ x < 0 := by
      rw [Int32.lt_iff_toInt_lt]
      omega
    rw [if_neg nn, if_pos (by rw [Int32.lt_iff_toInt_lt, e]; omega)]
    exact ⟨rfl, by omega⟩
  · right
    exact ⟨j, hj, rfl, by rw [if_neg (nI_pos (by omega)), if_neg (by rw [Int32.lt_iff_toInt_lt, e, nI_toInt (by omega)]; omega)]⟩
theorem p2_put {r i : Nat} (hr : r < 8) (hi : i < 40) (x3 : Int32) : f2_put (nI r) (nI i) x3 C = some (lnv (C.1 11 r) x3, zI C (3 + r) i (lnv (C.1 11 r) x3)) := by
  unfold f2_put f2_put_33 lnv
  rw [if_pos (inb_nI hr (by decide)), nI_clamp (show r < 2 ^ 31 by omega), nI_clamp (show i < 2 ^ 31 by omega)]
  by_cases c0 : C.1 11 r = 0
  · rw [if_pos c0, if_pos c0, ltt, if_pos (inb_nI hr (by decide)), if_pos (inb_nI hi (by decide)), ltt]
  · rw [if_neg c0, if_neg c0, if_pos (inb_nI hr (by decide))]
    by_cases c1 : C.1 11 r = 1
    · rw [if_pos c1, if_pos c1, ltt, if_pos (inb_nI hr (by decide)), if_pos (inb_nI hi (by decide)), ltt]
    · rw [if_neg c1, if_neg c1, if_pos (inb_nI hr (by decide)), if_pos (inb_nI hi (by decide)), ltt]
theorem p7_set100 {r i : Nat} (hr : r < 8) (hi : i < 40) (v : Int32) : f7_set_100 (nI r) (nI i) v (((40 : Int32) * nI r) + nI i) M = some (v.toInt64, zI M 3 (40 * r + i) v) := by
  unfold f7_set_100
  rw [ix40, if_pos (inb_nI (show 40 * r + i < 320 by omega) (by decide)), ltt, if_pos (inb_nI (show 40 * r + i < 320 by omega) (by decide)), nI_clamp (by omega), zI_rd, if_pos ⟨rfl, rfl⟩]
theorem s_set (h : II C M) (x1 x2 x3 : Int32) : ∃ (r : Int64) (C' M' : Zs), (f6_set x1 x2 x3 C = some (r, C')) ∧ (f7_set x1 x2 x3 M = some (r, M')) ∧ II C' M' := by
  have h2 := II_t0 h
  unfold f7_set f6_set
  rw [ltt]
  generalize zI M 0 0 0 = M2 at h2 ⊢
  rcases g_row x1 with ⟨e1, e2⟩ | ⟨r, hr, rfl, e1, e2⟩
  · rw [e1, e2, if_pos rfl, if_pos rfl]
    exact ⟨_, C, M2, rfl, rfl, h2⟩
  rw [e1, e2, if_neg i10, if_neg i10, ltt, if_pos (inb_nI hr (by decide)), nI_clamp (show r < 2 ^ 31 by omega), zI_1n _ _ _ (show 1 ≠ 0 by decide), zI_1n _ _ _ (show 2 ≠ 0 by decide)]
  rcases h2.1 r hr with ⟨y1, y2⟩ | ⟨n, l, y1, y2, y3, y4, y5, y6, y7⟩
  · rw [p2_miss1 hr y1, bd1s, if_neg i10, y2, if_neg (by decide)]
    exact ⟨_, _, _, rfl, rfl, II_found h2 1 0⟩
  rw [p2_miss0 hr y1 y3, bd1s, if_pos rfl, y6, if_pos (nI_pos' (by omega)), if_pos (inb_nI hr (by decide)), y4]
  have o := o32
  rcases g_ixz (n := n) (by omega) x2 with ⟨e3, e4⟩ | ⟨i, hi, rfl, e3⟩
  · rw [e3, if_pos rfl, p2_hasN hr y1 y3 (by omega), bd1s, if_pos rfl]
    exact ⟨_, _, _, rfl, rfl, II_found h2 2 0⟩
  rw [e3, if_neg i10, p2_hasY hr y1 y3 (by rw [nI_toInt (by omega)]; omega), bd1s, if_neg i10, p2_put hr (by omega), bd2s, y5, p7_set100 hr (by omega), p7_set100 hr (by omega), p7_set100 hr (by omega), if_pos (inb_nI hr (by decide)), if_pos (inb_nI hr (by decide))]
  have key : II (zI (zI C (3 + r) i (lnv (nI l) x3)) 0 11 0) (zI (zI M2 0 1 0) 3 (40 * r + i) (lnv (nI l) x3)) := by
    refine II_rows h2 ?_ (fun b e => by rw [zI_rd, if_neg (fun q => e q.2), zI_1n _ _ _ (by omega)]) (fun a e => by rw [zI_1n _ _ _ (by omega), zI_1n _ _ _ (by omega)]) rfl (fun b _ e => by rw [zI_1n _ _ _ (by decide), zI_rd, if_neg (fun q => e q.2)]) (fun a e => by rw [zI_1n _ _ _ (by omega), zI_1n _ _ _ (by omega)]) rfl (by rw [zI_rd, if_pos ⟨rfl, rfl⟩, zI_1n _ _ _ (by decide), zI_rd, if_pos ⟨rfl, rfl⟩])
    intro r' hr'
    rw [zI_1n _ _ _ (show 12 ≠ 0 by decide), zI_1n _ _ _ (show 11 ≠ 0 by decide), zI_1n _ _ _ (show 3 + r' ≠ 0 by omega), zI_1n _ _ _ (show 12 ≠ 3 + r by omega), zI_1n _ _ _ (show 11 ≠ 3 + r by omega), zI_1n _ _ _ (show 1 ≠ 3 by decide), zI_1n _ _ _ (show 2 ≠ 3 by decide), zI_1n _ _ _ (show 1 ≠ 0 by decide), zI_1n _ _ _ (show 2 ≠ 0 by decide)]
    rcases h2.1 r' hr' with x | ⟨n', l', z1, z2, z3, z4, z5, z6, z7⟩
    · exact Or.inl x
    · right
      refine ⟨n', l', z1, z2, z3, z4, z5, z6, fun j hj => ?_⟩
      rw [zI_rd, zI_rd, zI_1n _ _ _ (show 3 ≠ 0 by decide), z7 j hj]
      by_cases c : r' = r ∧ j = i
      · rw [if_pos (by omega), if_pos (by omega)]
      · rw [if_neg (by omega), if_neg (by omega)]
  unfold lnv at key ⊢
  by_cases c0 : nI l = 0
  · rw [if_pos c0] at key ⊢
    rw [if_pos c0]
    exact ⟨_, _, _, rfl, rfl, key⟩
  · rw [if_neg c0] at key ⊢
    rw [if_neg c0]
    by_cases c1 : nI l = 1
    · rw [if_pos c1] at key ⊢
      rw [if_pos c1]
      exact ⟨_, _, _, rfl, rfl, key⟩
    · rw [if_neg c1] at key ⊢
      rw [if_neg c1]
      exact ⟨_, _, _, rfl, rfl, key⟩
theorem s_drop (h : II C M) (x1 : Int32) : ∃ (r : Int64) (C' M' : Zs), (f6_drop x1 C = some (r, C')) ∧ (f7_drop x1 M = some (r, M')) ∧ II C' M' := by
  have h2 := II_t0 h
  unfold f7_drop f6_drop
  rw [ltt]
  generalize zI M 0 0 0 = M2 at h2 ⊢
  rcases g_row x1 with ⟨e1, e2⟩ | ⟨r, hr, rfl, e1, e2⟩
  · rw [e1, e2, if_pos rfl, if_pos rfl]
    exact ⟨_, C, M2, rfl, rfl, h2⟩
  rw [e1, e2, if_neg i10, if_neg i10, ltt, if_pos (inb_nI hr (by decide)), nI_clamp (show r < 2 ^ 31 by omega), zI_1n _ _ _ (show 1 ≠ 0 by decide)]
  rcases h2.1 r hr with ⟨y1, y2⟩ | ⟨n, l, y1, y2, y3, y4, y5, y6, y7⟩
  · rw [p2_miss1 hr y1, bd1s, if_neg i10, y2, if_neg (by decide)]
    exact ⟨_, _, _, rfl, rfl, II_found h2 1 0⟩
  rw [p2_miss0 hr y1 y3, bd1s, if_pos rfl, y6, if_pos (nI_pos' (by omega)), if_pos (inb_nI hr (by decide)), ltt, if_pos (inb_nI hr (by decide)), zI_1n _ _ _ (show 2 ≠ 1 by decide), zI_1n _ _ _ (show 2 ≠ 0 by decide), y4]
  unfold f2_remove
  rw [if_pos (inb_nI hr (by decide)), ltt, if_pos (inb_nI hr (by decide)), ltt, bd2s, nI_clamp (show r < 2 ^ 31 by omega), y3]
  refine ⟨_, _, _, rfl, rfl, ?_⟩
  refine II_rows h2 ?_ (fun b e => by rw [zI_rd, if_neg (fun q => e q.2), zI_1n _ _ _ (by omega)]) (fun a e => by rw [zI_1n _ _ _ (by omega), zI_1n _ _ _ (by omega)]) rfl (fun b _ e => by rw [zI_1n _ _ _ (by decide), zI_rd, if_neg (fun q => e q.2)]) (fun a e => by rw [zI_1n _ _ _ (by omega), zI_1n _ _ _ (by omega)]) rfl (by rw [zI_rd, if_pos ⟨rfl, rfl⟩, zI_1n _ _ _ (by decide), zI_rd, if_pos ⟨rfl, rfl⟩])
  intro r' hr'
  rw [zI_1n _ _ _ (show 12 ≠ 0 by decide), zI_1n _ _ _ (show 11 ≠ 0 by decide), zI_1n _ _ _ (show 3 + r' ≠ 0 by omega), zI_1n _ _ _ (show 11 ≠ 12 by decide), zI_1n _ _ _ (show 3 + r' ≠ 12 by omega), zI_1n _ _ _ (show 2 ≠ 1 by decide), zI_1n _ _ _ (show 3 ≠ 1 by decide), zI_1n _ _ _ (show 3 ≠ 0 by decide), zI_1n _ _ _ (show 2 ≠ 0 by decide), zI_rd, zI_rd, zI_1n _ _ _ (show 1 ≠ 0 by decide)]
  by_cases c : r' = r
  · left
    rw [if_pos ⟨rfl, c⟩, if_pos ⟨rfl, c⟩]
    exact ⟨rfl, rfl⟩
  · rw [if_neg (fun q => c q.2), if_neg (fun q => c q.2)]
    exact h2.1 r' hr'
theorem i64cmp {a b n : Nat} (ha : a < 2 ^ 31) (hb : b < 2 ^ 31) (hn : n ≤ 400) : ((nI n).toInt64 < (nI a).toInt64 + (nI b).toInt64 ↔ n < a + b) ∧ ((nI a).toInt64 + (nI b).toInt64 ≤ (nI n).toInt64 ↔ a + b ≤ n) := by
  rw [nI_l ha, nI_l hb, nI_l (show n < 2 ^ 31 by omega), lN_add]
  exact ⟨pk_lLT (by omega) (by omega), pk_lLE (by omega) (by omega)⟩
theorem cpy_up {F : Nat → Int32} {s d k : Nat} (hd : d ≤ s ∨ s + k < d) : va_cpy F F s d (k + 1) = upd (va_cpy F F s d k) (d + k) (va_cpy F F s d k (s + k)) := by
  funext b
  unfold va_cpy upd
  by_cases c : b = d + k
  · subst c
    rw [if_pos rfl, if_pos (by omega), if_neg (by omega)]
    congr 1
    omega
  · rw [if_neg c]
    dsimp only
    by_cases c2 : d ≤ b ∧ b < d + k
    · rw [if_pos c2, if_pos (by omega)]
    · rw [if_neg c2, if_neg (by omega)]
theorem cpy_dn {F : Nat → Int32} {s d k : Nat} (hd : s ≤ d ∨ d + 1 + k ≤ s) : va_cpy F F s d (k + 1) = upd (va_cpy F F (s + 1) (d + 1) k) d (va_cpy F F (s + 1) (d + 1) k s) := by
  funext b
  unfold va_cpy upd
  by_cases c : b = d
  · subst c
    rw [if_pos rfl, if_pos (by omega), if_neg (by omega)]
    congr 1
    omega
  · rw [if_neg c]
    dsimp only
    by_cases c2 : d + 1 ≤ b ∧ b < d + 1 + k
    · rw [if_pos c2, if_pos (by omega)]
      congr 1
      omega
    · rw [if_neg c2, if_neg (by omega)]
theorem cpy_0 {F : Nat → Int32} {s d : Nat} : va_cpy F F s d 0 = F := by
  funext b
  unfold va_cpy
  rw [if_neg (by omega)]
theorem zI_cell {S : Zs} {k j : Nat} {v : Int32} {F : Nat → Int32} (e : S.1 k = F) : (zI S k j v).1 k = upd F j v := by rw [zI_1, e]
theorem p7_copyU {a b i j n : Nat} (ha : a < 8) (hb : b < 8) (hi : i + n ≤ 40) (hj : j + n ≤ 40) (hd : 40 * b + j ≤ 40 * a + i ∨ 40 * a + i + n ≤ 40 * b + j) {x6 : Int32} (h6 : ¬ x6 = 0) (F : Nat → Int32) : ∀ f k (S : Zs), k ≤ n → n - k < f → S.1 3 = va_cpy F F (40 * a + i) (40 * b + j) k → ∃ S', f7_copy_144 f (nI a) (nI i) (nI b) (nI j) (nI n) x6 (nI k) S = some ((nI n).toInt64, S') ∧ (∀ c, c ≠ 3 → S'.1 c = S.1 c) ∧ S'.2 = S.2 ∧ S'.1 3 = va_cpy F F (40 * a + i) (40 * b + j) n := by
  intro f
  induction f with
  | zero => intro k S _ h; omega
  | succ f ih =>
    intro k S hk hf e
    unfold f7_copy_144
    by_cases c : n ≤ k
    · rw [if_pos (nI_le c (by omega))]
      exact ⟨S, rfl, fun _ _ => rfl, rfl, by rw [e, show k = n by omega]⟩
    · rw [if_neg (nI_ge (by omega) (by omega)), if_neg h6]
      unfold f7_copy_168
      rw [ix40, ix40, nI_add, nI_add, if_pos (inb_nI (show 40 * a + i + k < 320 by omega) (by decide)), if_pos (inb_nI (show 40 * b + j + k < 320 by omega) (by decide)), ltt, ltt, nI_clamp (show 40 * a + i + k < 2 ^ 31 by omega), nI_clamp (show 40 * b + j + k < 2 ^ 31 by omega), show nI k + 1 = nI (k + 1) from nI_1 _]
      obtain ⟨S', a1, a2, a3, a4⟩ := ih (k + 1) (zI S 3 (40 * b + j + k) (S.1 3 (40 * a + i + k))) (by omega) (by omega) (by rw [zI_cell e, cpy_up (by omega), e])
      exact ⟨S', a1, fun c hc => by rw [a2 c hc, zI_1n _ _ _ hc], a3, a4⟩
theorem p7_copyD {a b i j n : Nat} (ha : a < 8) (hb : b < 8) (hi : i + n ≤ 40) (hj : j + n ≤ 40) (hd : 40 * a + i ≤ 40 * b + j ∨ 40 * b + j + n ≤ 40 * a + i) (F : Nat → Int32) : ∀ f k (S : Zs), k ≤ n → n - k < f → S.1 3 = va_cpy F F (40 * a + i + (n - k)) (40 * b + j + (n - k)) k → ∃ S', f7_copy_144 f (nI a) (nI i) (nI b) (nI j) (nI n) 0 (nI k) S = some ((nI n).toInt64, S') ∧ (∀ c, c ≠ 3 → S'.1 c = S.1 c) ∧ S'.2 = S.2 ∧ S'.1 3 = va_cpy F F (40 * a + i) (40 * b + j) n := by
  intro f
  induction f with
  | zero => intro k S _ h; omega
  | succ f ih =>
    intro k S hk hf e
    unfold f7_copy_144
    by_cases c : n ≤ k
    · rw [if_pos (nI_le c (by omega))]
      refine ⟨S, rfl, fun _ _ => rfl, rfl, ?_⟩
      rw [e, show k = n by omega, Nat.sub_self]
      rfl
    · rw [if_neg (nI_ge (by omega) (by omega)), if_pos rfl]
      unfold f7_copy_168
      rw [show (nI n - 1) - nI k = nI (n - (k + 1)) by
        rw [show (1 : Int32) = nI 1 from rfl, pk_sub (by omega), pk_sub (by omega)]
        congr 1
        omega]
      rw [ix40, ix40, nI_add, nI_add, if_pos (inb_nI (show 40 * a + i + (n - (k + 1)) < 320 by omega) (by decide)), if_pos (inb_nI (show 40 * b + j + (n - (k + 1)) < 320 by omega) (by decide)), ltt, ltt, nI_clamp (show 40 * a + i + (n - (k + 1)) < 2 ^ 31 by omega), nI_clamp (show 40 * b + j + (n - (k + 1)) < 2 ^ 31 by omega), show nI k + 1 = nI (k + 1) from nI_1 _]
      obtain ⟨S', a1, a2, a3, a4⟩ := ih (k + 1) (zI S 3 (40 * b + j + (n - (k + 1))) (S.1 3 (40 * a + i + (n - (k + 1))))) (by omega) (by omega) (by
        rw [zI_cell e, cpy_dn (by omega), e, show 40 * a + i + (n - k) = 40 * a + i + (n - (k + 1)) + 1 by omega, show 40 * b + j + (n - k) = 40 * b + j + (n - (k + 1)) + 1 by omega])
      exact ⟨S', a1, fun c hc => by rw [a2 c hc, zI_1n _ _ _ hc], a3, a4⟩
theorem s_copy (h : II C M) (x1 x2 x3 x4 x5 : Int32) : ∃ (r : Int64) (C' M' : Zs), (f6_copy x1 x2 x3 x4 x5 C = some (r, C')) ∧ (f7_copy x1 x2 x3 x4 x5 M = some (r, M')) ∧ II C' M' := by
  have h2 := II_t0 h
  unfold f7_copy f6_copy
  rw [ltt]
  generalize zI M 0 0 0 = M2 at h2 ⊢
  rcases g_row x1 with ⟨e1, e2⟩ | ⟨a, ha, rfl, e1, e2⟩
  · rw [e1, e2, if_pos rfl, if_pos rfl]
    exact ⟨_, C, M2, rfl, rfl, h2⟩
  rw [e1, e2, if_neg i10, if_neg i10]
  rcases g_row x3 with ⟨e1, e2⟩ | ⟨b, hb, rfl, e1, e2⟩
  · rw [e1, e2, if_pos rfl, if_pos rfl]
    exact ⟨_, C, M2, rfl, rfl, h2⟩
  rw [e1, e2, if_neg i10, if_neg i10, ltt, if_pos (inb_nI ha (by decide)), nI_clamp (show a < 2 ^ 31 by omega), nI_clamp (show b < 2 ^ 31 by omega), zI_1n _ _ _ (show 1 ≠ 0 by decide), zI_1n _ _ _ (show 2 ≠ 0 by decide)]
  rcases h2.1 a ha with ⟨y1, y2⟩ | ⟨n, l, y1, y2, y3, y4, y5, y6, y7⟩
  · rw [p2_miss1 ha y1, bd1s, if_neg i10, y2, if_pos (by decide)]
    exact ⟨_, _, _, rfl, rfl, II_found h2 1 0⟩
  rw [p2_miss0 ha y1 y3, bd1s, if_pos rfl, y6, if_neg (nI_pos (by omega)), if_pos (inb_nI hb (by decide))]
  rcases h2.1 b hb with ⟨z1, z2⟩ | ⟨k, o, z1, z2, z3, z4, z5, z6, z7⟩
  · rw [p2_miss1 hb z1, bd1s, if_neg i10, z2, if_neg (by decide)]
    exact ⟨_, _, _, rfl, rfl, II_found h2 1 0⟩
  rw [p2_miss0 hb z1 z3, bd1s, if_pos rfl, z6, if_pos (nI_pos' (by omega)), if_pos (inb_nI ha (by decide)), if_pos (inb_nI hb (by decide))]
  have el : f2_sameLane C (nI a) (nI b) = some (if nI l = nI o then 1 else 0) := by
    unfold f2_sameLane
    rw [if_pos (inb_nI ha (by decide)), if_pos (inb_nI hb (by decide)), nI_clamp (show a < 2 ^ 31 by omega), nI_clamp (show b < 2 ^ 31 by omega), y5, z5]
    by_cases c : nI l = nI o
    · rw [if_pos c, if_pos c]
    · rw [if_neg c, if_neg c]
  rw [el, bd1s]
  rcases Classical.em (¬ (nI l = nI o)) with c | c'
  · rw [if_neg c, if_neg c, if_pos rfl]
    exact ⟨_, _, _, rfl, rfl, II_found h2 5 0⟩
  have c := Classical.not_not.mp c'
  rw [if_pos c, if_pos c, if_neg i10]
  have no : ∃ (r : Int64) (C' M' : Zs), (f6_copy_93 C = some (r, C')) ∧ (f7_copy_122 (zI M2 0 1 0) = some (r, M')) ∧ II C' M' := ⟨_, _, _, rfl, rfl, II_found h2 2 0⟩
  have z := z32
  by_cases c2 : x2 < 0
  · have d := c2
    rw [Int32.lt_iff_toInt_lt] at d
    rw [if_pos c2, p2_hasN ha y1 y3 (by omega), bd1s, if_pos rfl]
    exact no
  rw [if_neg c2]
  obtain ⟨i, hi, rfl⟩ := nI_of c2
  by_cases c4 : x4 < 0
  · have d := c4
    rw [Int32.lt_iff_toInt_lt] at d
    rw [if_pos c4]
    by_cases t : 0 ≤ (nI i).toInt ∧ 0 ≤ x5.toInt ∧ (nI i).toInt + x5.toInt ≤ n
    · rw [p2_hasY ha y1 y3 t, bd1s, if_neg i10, p2_hasN hb z1 z3 (by omega), bd1s, if_pos rfl]
      exact no
    · rw [p2_hasN ha y1 y3 t, bd1s, if_pos rfl]
      exact no
  rw [if_neg c4]
  obtain ⟨j, hj, rfl⟩ := nI_of c4
  by_cases c5 : x5 < 0
  · have d := c5
    rw [Int32.lt_iff_toInt_lt] at d
    rw [if_pos c5, p2_hasN ha y1 y3 (by omega), bd1s, if_pos rfl]
    exact no
  rw [if_neg c5]
  obtain ⟨q, hq, rfl⟩ := nI_of c5
  rw [if_pos (inb_nI ha (by decide)), y4, z4]
  have u1 := nI_toInt hi
  have u2 := nI_toInt hj
  have u3 := nI_toInt hq
  rcases Classical.em (¬ (i + q ≤ n)) with t1 | t1'
  · rw [p2_hasN ha y1 y3 (by omega), bd1s, if_pos rfl, if_pos ((i64cmp hi hq (by omega)).1.mpr (by omega))]
    exact no
  have t1 := Classical.not_not.mp t1'
  rw [p2_hasY ha y1 y3 (by omega), bd1s, if_neg i10, if_neg (fun s => by have := (i64cmp hi hq (by omega)).1.mp s; omega), if_pos (inb_nI hb (by decide))]
  rcases Classical.em (¬ (j + q ≤ k)) with t2 | t2'
  · rw [p2_hasN hb z1 z3 (by omega), bd1s, if_pos rfl, if_neg (fun s => by have := (i64cmp hj hq (by omega)).2.mp s; omega)]
    exact no
  have t2 := Classical.not_not.mp t2'
  rw [p2_hasY hb z1 z3 (by omega), bd1s, if_neg i10, if_pos ((i64cmp hj hq (by omega)).2.mpr t2)]
  have cc : f2_carry (nI a) (nI i) (nI b) (nI j) (nI q) C = some (zcI C (3 + a) i (3 + b) j q) := by
    unfold f2_carry
    rw [if_pos (inb_nI ha (by decide)), if_pos (inb_nI hb (by decide)), nI_clamp (show a < 2 ^ 31 by omega), nI_clamp (show b < 2 ^ 31 by omega), nI_clamp hi, nI_clamp hj, nI_clamp hq, if_pos, ltt]
    unfold cpok
    rw [nI_clamp hi, nI_clamp hj, nI_clamp hq]
    exact decide_eq_true ⟨nI_pos hi, nI_pos hj, nI_pos hq, by omega, by omega⟩
  rw [cc, bd1s]
  have mm : ∃ M3, (if nI i < nI j then f7_copy_139 (nI a) (nI i) (nI b) (nI j) (nI q) (0 : Int32) (zI M2 0 1 0) else f7_copy_139 (nI a) (nI i) (nI b) (nI j) (nI q) (1 : Int32) (zI M2 0 1 0)) = some ((nI q).toInt64, M3) ∧ (∀ c, c ≠ 3 → M3.1 c = (zI M2 0 1 0).1 c) ∧ M3.2 = (zI M2 0 1 0).2 ∧ M3.1 3 = va_cpy (M2.1 3) (M2.1 3) (40 * a + i) (40 * b + j) q := by
    by_cases t3 : i < j
    · rw [if_pos (nI_lt t3 hj)]
      unfold f7_copy_139
      exact p7_copyD ha hb (by omega) (by omega) (by omega) (M2.1 3) fuel0 0 (zI M2 0 1 0) (by omega) (by unfold fuel0; omega) (by rw [cpy_0]; exact zI_1n _ _ _ (by decide))
    · rw [if_neg (nI_nlt (by omega) hi)]
      unfold f7_copy_139
      exact p7_copyU ha hb (by omega) (by omega) (by omega) i10 (M2.1 3) fuel0 0 (zI M2 0 1 0) (by omega) (by unfold fuel0; omega) (by rw [cpy_0]; exact zI_1n _ _ _ (by decide))
  obtain ⟨M3, m1, m2, m3, m4⟩ := mm
  rw [m1]
  refine ⟨_, _, M3, rfl, rfl, ?_⟩
  refine II_rows h2 ?_ (fun b e => by rw [zI_rd, if_neg (fun q => e q.2), zcI_1n _ _ _ _ _ (by omega)]) (fun a e => by rw [zI_1n _ _ _ (by omega), zcI_1n _ _ _ _ _ (by omega)]) rfl (fun b _ e => by rw [m2 0 (by decide), zI_rd, if_neg (fun q => e q.2)]) (fun a e => by rw [m2 a (by omega), zI_1n _ _ _ (by omega)]) (by rw [m3]; rfl) (by rw [zI_rd, if_pos ⟨rfl, rfl⟩, m2 0 (by decide), zI_rd, if_pos ⟨rfl, rfl⟩])
  intro r' hr'
  rw [zI_1n _ _ _ (show 12 ≠ 0 by decide), zI_1n _ _ _ (show 11 ≠ 0 by decide), zI_1n _ _ _ (show 3 + r' ≠ 0 by omega), zcI_1n _ _ _ _ _ (show 12 ≠ 3 + b by omega), zcI_1n _ _ _ _ _ (show 11 ≠ 3 + b by omega), m2 1 (by decide), m2 2 (by decide), m4, zI_1n _ _ _ (show 1 ≠ 0 by decide), zI_1n _ _ _ (show 2 ≠ 0 by decide)]
  rcases h2.1 r' hr' with x | ⟨n', l', w1, w2, w3, w4, w5, w6, w7⟩
  · exact Or.inl x
  right
  refine ⟨n', l', w1, w2, w3, w4, w5, w6, fun t ht => ?_⟩
  by_cases cr : r' = b
  · subst cr
    rw [zcI_1]
    by_cases ct : j ≤ t ∧ t < j + q
    · rw [pk_cpy_in ct.1 ct.2, pk_cpy_in (by omega) (by omega), y7 _ (by omega)]
      exact congrArg (M2.1 3) (by omega)
    · rw [pk_cpy_out (by omega), pk_cpy_out (by omega)]
      exact w7 t ht
  · rw [zcI_1n _ _ _ _ _ (show 3 + r' ≠ 3 + b by omega), pk_cpy_out (by omega)]
    exact w7 t ht
end RV
