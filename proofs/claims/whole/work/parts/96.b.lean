/-! READING: the reference's tokens; both at one token -/
section TM
variable {S : Zs} {N : Nat} {T : Nat → Nat}
theorem p7_byteAt (ht : txt N T) (h : tpM S N T) {p : Nat} (hp : p ≤ N) : f7_byteAt S (nI p) = some (if p < N then nI (T p) else -1000000) := by
  have hN := ht.1
  unfold f7_byteAt
  rw [h.1, iNle (by omega) (by omega)]
  by_cases c : p < N
  · rw [if_neg (by omega), if_pos c, if_pos (inb_nI (by omega) (by decide)), nI_clamp (by omega), h.2 p c]
  · rw [if_pos (by omega), if_neg c]
theorem p7_let (ht : txt N T) : ∀ r n p (S : Zs), p + r = N → r < n → tpM S N T → S.1 0 19 = nI p → ∃ S', f7_next_77 n S = some S' ∧ m4 S S' ∧ S'.1 0 21 = S.1 0 21 ∧ S'.1 0 19 = nI (rn isLt T r p) ∧ S'.1 0 22 = nI (rn isLt T r p) ∧ S'.1 0 20 = nI 2 := by
  have hN := ht.1
  have stop : ∀ p (S : Zs), S.1 0 19 = nI p → ∃ S', (lt_ (zI S 0 20 (2 : Int32)) fun S106 => f7_next_196 S106) = some S' ∧ m4 S S' ∧ S'.1 0 21 = S.1 0 21 ∧ S'.1 0 19 = nI p ∧ S'.1 0 22 = nI p ∧ S'.1 0 20 = nI 2 := by
    intro p S e
    unfold f7_next_196
    rw [ltt, ltt, zI_rd, if_neg (by decide), e]
    exact ⟨_, rfl, (m4.z (by omega)).tr (m4.z (by omega)), by rw [zI_rd, if_neg (by decide), zI_rd, if_neg (by decide)], by rw [zI_rd, if_neg (by decide), zI_rd, if_neg (by decide)]; exact e, by rw [zI_rd, if_pos ⟨rfl, rfl⟩], by rw [zI_rd, if_neg (by decide), zI_rd, if_pos ⟨rfl, rfl⟩]; rfl⟩
  intro r
  induction r with
  | zero =>
    intro n p S hp hn h e
    obtain ⟨n, rfl⟩ : ∃ k, n = k + 1 := ⟨n - 1, by omega⟩
    rw [f7_next_77]
    dsimp only
    rw [e, p7_byteAt ht h (by omega), bd1s, if_neg (show ¬ p < N by omega), if_pos (show f7_isLetter (-1000000) = 0 by decide)]
    exact stop p S e
  | succ r ih =>
    intro n p S hp hn h e
    obtain ⟨n, rfl⟩ : ∃ k, n = k + 1 := ⟨n - 1, by omega⟩
    have b := ht.2 p (by omega)
    rw [f7_next_77]
    dsimp only
    rw [e, p7_byteAt ht h (by omega), bd1s, if_pos (show p < N by omega), (by_let _ b).2, rn]
    by_cases c : isLt (T p) = true
    · rw [if_pos c, if_neg i10, if_pos c, ltt, show nI p + 1 = nI (p + 1) from nI_1 _]
      obtain ⟨S', a1, a2, a3, a4⟩ := ih n (p + 1) (zI S 0 19 (nI (p + 1))) (by omega) (by omega) (tpM_4 h (m4.z (by omega))) (by rw [zI_rd, if_pos ⟨rfl, rfl⟩])
      exact ⟨S', a1, (m4.z (by omega)).tr a2, a3.trans (by rw [zI_rd, if_neg (by decide)]), a4⟩
    · rw [if_neg c, if_pos rfl, if_neg c]
      exact stop p S e
theorem p7_fig (ht : txt N T) {s : Nat} : ∀ r n p (S : Zs), p + r = N → r < n → s ≤ p → tpM S N T → S.1 0 19 = nI p → S.1 0 21 = nI s → ∃ S', f7_next_119 n S = some S' ∧ m4 S S' ∧ S'.1 0 21 = nI s ∧ S'.1 0 19 = nI (rn isFg T r p) ∧ S'.1 0 22 = nI (rn isFg T r p) ∧ S'.1 0 20 = nI (if rn isFg T r p ≤ s + 2 then 3 else 0) := by
  have hN := ht.1
  have fin : ∀ t p (S : Zs), S.1 0 19 = nI p → S.1 0 21 = nI s → ∃ S', f7_next_165 (nI t) S = some S' ∧ m4 S S' ∧ S'.1 0 21 = nI s ∧ S'.1 0 19 = nI p ∧ S'.1 0 22 = nI p ∧ S'.1 0 20 = nI t := by
    intro t p S e e2
    unfold f7_next_165 f7_next_196
    rw [ltt, ltt, zI_rd, if_neg (by decide), e]
    exact ⟨_, rfl, (m4.z (by omega)).tr (m4.z (by omega)), by rw [zI_rd, if_neg (by decide), zI_rd, if_neg (by decide)]; exact e2, by rw [zI_rd, if_neg (by decide), zI_rd, if_neg (by decide)]; exact e, by rw [zI_rd, if_pos ⟨rfl, rfl⟩], by rw [zI_rd, if_neg (by decide), zI_rd, if_pos ⟨rfl, rfl⟩]⟩
  have stop : ∀ p (S : Zs), s ≤ p → p ≤ N → S.1 0 19 = nI p → S.1 0 21 = nI s → ∃ S', (if (S.1 0 19) - (S.1 0 21) ≤ (2 : Int32) then f7_next_165 (3 : Int32) S else f7_next_165 (0 : Int32) S) = some S' ∧ m4 S S' ∧ S'.1 0 21 = nI s ∧ S'.1 0 19 = nI p ∧ S'.1 0 22 = nI p ∧ S'.1 0 20 = nI (if p ≤ s + 2 then 3 else 0) := by
    intro p S hs hp e e2
    rw [e, e2, pk_sub hs, show (2 : Int32) = nI 2 from rfl, iNle (by omega) (by omega)]
    by_cases c : p - s ≤ 2
    · rw [if_pos c, if_pos (show p ≤ s + 2 by omega)]
      exact fin 3 p S e e2
    · rw [if_neg c, if_neg (show ¬ p ≤ s + 2 by omega)]
      exact fin 0 p S e e2
  intro r
  induction r with
  | zero =>
    intro n p S hp hn hs h e e2
    obtain ⟨n, rfl⟩ : ∃ k, n = k + 1 := ⟨n - 1, by omega⟩
    have st := stop p S hs (by omega) e e2
    rw [f7_next_119]
    dsimp only
    have eb : f7_byteAt S (S.1 0 19) = some (if p < N then nI (T p) else -1000000) := by
      rw [e]
      exact p7_byteAt ht h (by omega)
    rw [eb, bd1s, if_neg (show ¬ p < N by omega), if_pos (show f7_isFigure (-1000000) = 0 by decide)]
    exact st
  | succ r ih =>
    intro n p S hp hn hs h e e2
    obtain ⟨n, rfl⟩ : ∃ k, n = k + 1 := ⟨n - 1, by omega⟩
    have b := ht.2 p (by omega)
    have st := stop p S hs (by omega) e e2
    rw [f7_next_119]
    dsimp only
    have eb : f7_byteAt S (S.1 0 19) = some (if p < N then nI (T p) else -1000000) := by
      rw [e]
      exact p7_byteAt ht h (by omega)
    rw [eb, bd1s, if_pos (show p < N by omega), (by_fig _ b).2, rn]
    by_cases c : isFg (T p) = true
    · rw [if_pos c, if_neg i10, if_pos c, ltt, e, show nI p + 1 = nI (p + 1) from nI_1 _]
      obtain ⟨S', a1, a2, a3, a4⟩ := ih n (p + 1) (zI S 0 19 (nI (p + 1))) (by omega) (by omega) (by omega) (tpM_4 h (m4.z (by omega))) (by rw [zI_rd, if_pos ⟨rfl, rfl⟩]) (by rw [zI_rd, if_neg (by decide)]; exact e2)
      exact ⟨S', a1, (m4.z (by omega)).tr a2, a3, a4⟩
    · rw [if_neg c, if_pos rfl, if_neg c]
      exact st
/-- what next leaves -/
def nxt (S S' : Zs) (T : Nat → Nat) (N s : Nat) : Prop := m4 S S' ∧ S'.1 0 21 = nI s ∧ S'.1 0 19 = nI (tE T N s) ∧ S'.1 0 22 = nI (tE T N s) ∧ S'.1 0 20 = nI (kM T N s)
theorem p7_tail (ht : txt N T) (h : tpM S N T) {s : Nat} (hs : s ≤ N) (e : S.1 0 19 = nI s) (nb : s < N → isBl (T s) = false) (n : Nat) : ∃ S', f7_next_0 (n + 1) S = some S' ∧ nxt S S' T N s := by
  have hN := ht.1
  rw [f7_next_0]
  dsimp only
  have k1 : m4 S (zI S 0 21 (nI s)) := m4.z (by omega)
  have h1 : tpM (zI S 0 21 (nI s)) N T := tpM_4 h k1
  have f1 : (zI S 0 21 (nI s)).1 0 19 = nI s := by rw [zI_rd, if_neg (by decide)]; exact e
  have f2 : (zI S 0 21 (nI s)).1 0 21 = nI s := by rw [zI_rd, if_pos ⟨rfl, rfl⟩]
  rw [e, ltt, f1]
  generalize zI S 0 21 (nI s) = S1 at *
  rw [p7_byteAt ht h hs, bd1s, bd1s, p7_byteAt ht h1 hs, bd1s]
  by_cases c0 : s < N
  · have b := ht.2 s c0
    have b1 := bm_32 _ b
    have nb' := nb c0
    have n1 : T s ≠ 32 := fun z => by rw [z] at nb'; exact absurd nb' (by decide)
    have n2 : T s ≠ 10 := fun z => by rw [z] at nb'; exact absurd nb' (by decide)
    rw [if_pos c0, if_neg (fun z => n1 (b1.1.mp z)), if_neg (fun z => n2 (b1.2.1.mp z)), if_neg b1.2.2.2, (by_let _ b).2, (by_fig _ b).2]
    by_cases c1 : isLt (T s) = true
    · rw [if_pos c1, if_neg i10]
      obtain ⟨S', a1, a2, a3, a4, a5, a6⟩ := p7_let ht (N - s) fuel0 s S1 (by omega) (by unfold fuel0; omega) h1 f1
      have eE : tE T N s = rn isLt T (N - s) s := by unfold tE; rw [if_pos c0, if_pos c1]
      refine ⟨S', a1, k1.tr a2, a3.trans f2, by rw [eE]; exact a4, by rw [eE]; exact a5, ?_⟩
      unfold kM
      rw [if_pos c0, if_pos c1]
      exact a6
    · rw [if_neg c1, if_pos rfl]
      by_cases c2 : isFg (T s) = true
      · rw [if_pos c2, if_neg i10]
        obtain ⟨S', a1, a2, a3, a4, a5, a6⟩ := p7_fig ht (s := s) (N - s) fuel0 s S1 (by omega) (by unfold fuel0; omega) (Nat.le_refl _) h1 f1 f2
        have eE : tE T N s = rn isFg T (N - s) s := by unfold tE; rw [if_pos c0, if_neg c1, if_pos c2]
        refine ⟨S', a1, k1.tr a2, a3, by rw [eE]; exact a4, by rw [eE]; exact a5, ?_⟩
        unfold kM
        rw [if_pos c0, if_neg c1, if_pos c2, eE]
        exact a6
      · rw [if_neg c2, if_pos rfl, ltt, show nI s + 1 = nI (s + 1) from nI_1 _]
        have eE : tE T N s = s + 1 := by unfold tE; rw [if_pos c0, if_neg c1, if_neg c2]
        have fin : ∀ t : Nat, ∃ S', f7_next_193 (nI t) (zI S1 0 19 (nI (s + 1))) = some S' ∧ m4 S S' ∧ S'.1 0 21 = nI s ∧ S'.1 0 19 = nI (s + 1) ∧ S'.1 0 22 = nI (s + 1) ∧ S'.1 0 20 = nI t := by
          intro t
          unfold f7_next_193 f7_next_196
          rw [ltt, ltt, zI_rd, if_neg (by decide), zI_rd, if_pos ⟨rfl, rfl⟩]
          exact ⟨_, rfl, ((k1.tr (m4.z (by omega))).tr (m4.z (by omega))).tr (m4.z (by omega)), by rw [zI_rd, if_neg (by decide), zI_rd, if_neg (by decide), zI_rd, if_neg (by decide)]; exact f2, by rw [zI_rd, if_neg (by decide), zI_rd, if_neg (by decide), zI_rd, if_pos ⟨rfl, rfl⟩], by rw [zI_rd, if_pos ⟨rfl, rfl⟩], by rw [zI_rd, if_neg (by decide), zI_rd, if_pos ⟨rfl, rfl⟩]⟩
        unfold nxt kM
        rw [if_pos c0, if_neg c1, if_neg c2, eE]
        by_cases c3 : T s = 59
        · rw [if_pos (b1.2.2.1.mpr c3), if_pos c3]
          exact fin 4
        · rw [if_neg (fun z => c3 (b1.2.2.1.mp z)), if_neg c3]
          exact fin 0
  · rw [if_neg c0, if_neg (by decide), if_neg (by decide), if_pos rfl, ltt]
    unfold f7_next_196 nxt kM
    have eE : tE T N s = s := by unfold tE; rw [if_neg c0]
    rw [ltt, if_neg c0, eE, zI_rd, if_neg (by decide), f1]
    exact ⟨_, rfl, (k1.tr (m4.z (by omega))).tr (m4.z (by omega)), by rw [zI_rd, if_neg (by decide), zI_rd, if_neg (by decide)]; exact f2, by rw [zI_rd, if_neg (by decide), zI_rd, if_neg (by decide)]; exact f1, by rw [zI_rd, if_pos ⟨rfl, rfl⟩], by rw [zI_rd, if_neg (by decide), zI_rd, if_pos ⟨rfl, rfl⟩]; rfl⟩
theorem p7_next0 (ht : txt N T) : ∀ r n p (S : Zs), p + r = N → r < n → tpM S N T → S.1 0 19 = nI p → ∃ S', f7_next_0 n S = some S' ∧ nxt S S' T N (rn isBl T r p) := by
  have hN := ht.1
  intro r
  induction r with
  | zero =>
    intro n p S hp hn h e
    obtain ⟨n, rfl⟩ : ∃ k, n = k + 1 := ⟨n - 1, by omega⟩
    exact p7_tail ht h (by omega) e (fun z => by omega) n
  | succ r ih =>
    intro n p S hp hn h e
    obtain ⟨n, rfl⟩ : ∃ k, n = k + 1 := ⟨n - 1, by omega⟩
    have b := ht.2 p (by omega)
    have b1 := bm_32 _ b
    rw [rn]
    by_cases c : isBl (T p) = true
    · rw [if_pos c]
      have go : ∃ S', f7_next_26 (f7_next_0 n) S = some S' ∧ nxt S S' T N (rn isBl T r (p + 1)) := by
        unfold f7_next_26
        rw [ltt, e, show nI p + 1 = nI (p + 1) from nI_1 _]
        obtain ⟨S', a1, a2, a3⟩ := ih n (p + 1) (zI S 0 19 (nI (p + 1))) (by omega) (by omega) (tpM_4 h (m4.z (by omega))) (by rw [zI_rd, if_pos ⟨rfl, rfl⟩])
        exact ⟨S', a1, (m4.z (by omega)).tr a2, a3⟩
      rw [f7_next_0]
      dsimp only
      have eb : f7_byteAt S (S.1 0 19) = some (if p < N then nI (T p) else -1000000) := by
        rw [e]
        exact p7_byteAt ht h (by omega)
      rw [eb, bd1s, if_pos (show p < N by omega)]
      by_cases c1 : T p = 32
      · rw [if_pos (b1.1.mpr c1)]
        exact go
      · have c2 : T p = 10 := by
          unfold isBl at c
          simp [c1] at c
          exact c
        rw [if_neg (fun z => c1 (b1.1.mp z)), bd1s, if_pos (b1.2.1.mpr c2)]
        exact go
    · rw [if_neg c]
      exact p7_tail ht h (by omega) e (fun z => by simpa using c) n
theorem p7_next (ht : txt N T) (h : tpM S N T) {p : Nat} (hp : p ≤ N) (e : S.1 0 19 = nI p) : ∃ S', f7_next S = some S' ∧ nxt S S' T N (tS T N p) := by
  have hN := ht.1
  exact p7_next0 ht (N - p) fuel0 p S (by omega) (by unfold fuel0; omega) h e
/-! its words -/
def wv (T : Nat → Nat) (s : Nat) : Nat → Nat
  | 0 => 0
  | k + 1 => wv T s k * 256 + T (s + k)
theorem wv_lt {T : Nat → Nat} {s : Nat} : ∀ {k : Nat}, (∀ i, i < k → T (s + i) < 256) → wv T s k < 256 ^ k := by
  intro k
  induction k with
  | zero => intro _; exact Nat.one_pos
  | succ k ih =>
    intro h
    have a := ih (fun i hi => h i (by omega))
    have b := h k (by omega)
    show wv T s k * 256 + T (s + k) < 256 ^ (k + 1)
    rw [Nat.pow_succ]
    omega
theorem u_tn {n : Nat} (h : n < 2 ^ 64) : (UInt64.ofNat n).toNat = n := Nat.mod_eq_of_lt h
theorem g_or {k p a b : Nat} (hp : 2 ^ k = p) (ha : a < p) (h : b * p + a < 2 ^ 64) : lN (b * p) ||| lN a = lN (b * p + a) := by
  subst hp
  have h1 : b * 2 ^ k ||| a = b * 2 ^ k + a := by rw [← Nat.shiftLeft_eq, Nat.shiftLeft_add_eq_or_of_lt ha]
  have h3 : UInt64.ofNat (b * 2 ^ k) ||| UInt64.ofNat a = UInt64.ofNat (b * 2 ^ k + a) := UInt64.toNat_inj.mp (by rw [UInt64.toNat_or, u_tn (by omega), u_tn (by omega), u_tn h, h1])
  have h2 := congrArg UInt64.toInt64 h3
  exact h2
theorem g_shl {a k p : Nat} {y : Int64} (hy : y.toBitVec.smod 64 = BitVec.ofNat 64 k) (hk : k < 64) (hp : 2 ^ k = p) (ha : a < 2 ^ 64) : lN a <<< y = lN (a * p) := by
  subst hp
  apply Int64.toBitVec_inj.mp
  rw [Int64.toBitVec_shiftLeft, hy]
  apply BitVec.eq_of_toNat_eq
  have hb : (lN a).toBitVec.toNat = a := Nat.mod_eq_of_lt ha
  have hk' : (BitVec.ofNat 64 k).toNat = k := Nat.mod_eq_of_lt (by omega)
  have h : ((lN a).toBitVec <<< BitVec.ofNat 64 k).toNat = (a * 2 ^ k) % 2 ^ 64 := by simp only [BitVec.shiftLeft_eq', BitVec.toNat_shiftLeft, hb, hk', Nat.shiftLeft_eq]
  exact h
theorem wv_st {x b : Nat} (hx : x < 256 ^ 7) (hb : b < 256) : (lN x <<< ((8 : Int32).toInt64 &&& 63)) ||| (nI b).toInt64 = lN (x * 256 + b) := by
  rw [g_shl (k := 8) (p := 256) (by decide) (by decide) (by decide) (by omega), nI_l (by omega), g_or (k := 8) (p := 256) (by decide) hb (by omega)]
theorem p7_word7 (ht : txt N T) (h : tpM S N T) {s e : Nat} (h20 : S.1 0 20 = nI 2) (h21 : S.1 0 21 = nI s) (h22 : S.1 0 22 = nI e) (he : e ≤ N) (h8 : e - s < 8) : ∀ r n k, s + k + r = e → r < n → f7_word_7 S n (lN (wv T s k)) (nI (s + k)) = some (lN (wv T s (e - s))) := by
  have hN := ht.1
  intro r
  induction r with
  | zero =>
    intro n k hk hn
    obtain ⟨n, rfl⟩ : ∃ k, n = k + 1 := ⟨n - 1, by omega⟩
    rw [f7_word_7]
    dsimp only
    rw [h22, if_pos (nI_le (by omega) (by omega)), show e - s = k by omega]
  | succ r ih =>
    intro n k hk hn
    obtain ⟨n, rfl⟩ : ∃ k, n = k + 1 := ⟨n - 1, by omega⟩
    have w := wv_lt (T := T) (s := s) (k := k) (fun i hi => ht.2 _ (by omega))
    have p7 : 256 ^ k ≤ 256 ^ 7 := Nat.pow_le_pow_right (by decide) (by omega)
    rw [f7_word_7]
    dsimp only
    rw [h22, if_neg (nI_ge (by omega) (by omega)), h20, if_pos (show nI 2 = (2 : Int32) from rfl), h21, pk_sub (by omega), show (8 : Int32) = nI 8 from rfl, if_neg (nI_ge h8 (by omega)), if_pos (inb_nI (by omega) (by decide)), nI_clamp (by omega), h.2 _ (by omega), ltt, ltt, show nI 8 = (8 : Int32) from rfl, wv_st (by omega) (ht.2 _ (by omega)), show nI (s + k) + 1 = nI (s + (k + 1)) from nI_1 _]
    exact ih n (k + 1) (by omega) (by omega)
/-- the fields of a token, in the reference -/
def mt (S : Zs) (T : Nat → Nat) (N s : Nat) : Prop := s ≤ N ∧ tpM S N T ∧ S.1 0 21 = nI s ∧ S.1 0 19 = nI (tE T N s) ∧ S.1 0 22 = nI (tE T N s) ∧ S.1 0 20 = nI (kM T N s) ∧ S.1 0 23 = 0
theorem kM_lt {s : Nat} : kM T N s ≤ 4 := by
  unfold kM
  split
  · split
    · omega
    · split
      · split <;> omega
      · split <;> omega
  · omega
theorem kC_le {s : Nat} : kC T N s ≤ 5 := by
  unfold kC
  split
  · split
    · split
      · omega
      · split <;> omega
    · split
      · split <;> omega
      · split <;> omega
  · omega
theorem k_0 {s : Nat} : kC T N s = 0 ↔ kM T N s = 1 := by
  unfold kC kM
  by_cases c0 : s < N
  · rw [if_pos c0, if_pos c0]
    by_cases c1 : isLt (T s) = true
    · rw [if_pos c1, if_pos c1]
      split
      · omega
      · split <;> omega
    · rw [if_neg c1, if_neg c1]
      split
      · split <;> omega
      · split <;> omega
  · rw [if_neg c0, if_neg c0]
    omega
theorem k_3 {s : Nat} : kC T N s = 3 ↔ kM T N s = 3 := by
  unfold kC kM
  by_cases c0 : s < N
  · rw [if_pos c0, if_pos c0]
    by_cases c1 : isLt (T s) = true
    · rw [if_pos c1, if_pos c1]
      split
      · omega
      · split <;> omega
    · rw [if_neg c1, if_neg c1]
      split
      · split <;> omega
      · split <;> omega
  · rw [if_neg c0, if_neg c0]
    omega
theorem k_4 {s : Nat} : kC T N s = 4 ↔ kM T N s = 4 := by
  unfold kC kM
  by_cases c0 : s < N
  · rw [if_pos c0, if_pos c0]
    by_cases c1 : isLt (T s) = true
    · rw [if_pos c1, if_pos c1]
      split
      · omega
      · split <;> omega
    · rw [if_neg c1, if_neg c1]
      split
      · split <;> omega
      · split <;> omega
  · rw [if_neg c0, if_neg c0]
    omega
theorem p7_word (ht : txt N T) {s : Nat} (h : mt S T N s) : ∃ x, x < 256 ^ 7 ∧ f7_word S = some (lN x) ∧ (x = 1735356260 ↔ kC T N s = 1) ∧ (x = 1818324580 ↔ kC T N s = 2) := by
  have hN := ht.1
  obtain ⟨hs, h1, h21, h19, h22, h20, h23⟩ := h
  have el := tE_le (T := T) (N := N) (s := s) hs
  unfold f7_word
  rw [ltt, h21]
  by_cases c : kM T N s = 2
  · have c0 : s < N := by
      refine Classical.byContradiction (fun z => ?_)
      unfold kM at c
      rw [if_neg z] at c
      omega
    have c1 : isLt (T s) = true := by
      refine Classical.byContradiction (fun z => ?_)
      unfold kM at c
      rw [if_pos c0, if_neg z] at c
      split at c
      · split at c <;> omega
      · split at c <;> omega
    have eE : tE T N s = rn isLt T (N - s) s := by unfold tE; rw [if_pos c0, if_pos c1]
    have al : ∀ k, s ≤ k → k < tE T N s → 97 ≤ T k ∧ T k ≤ 122 := fun k k1 k2 => lt26 (rn_all (P := isLt) (T := T) (n := N - s) k1 (by rw [← eE]; exact k2))
    have gt : s < tE T N s := by
      have : rn isLt T (N - s) s = rn isLt T (N - s - 1 + 1) s := by rw [show N - s - 1 + 1 = N - s by omega]
      rw [eE, this, rn, if_pos c1]
      have := rn_le (P := isLt) (T := T) (n := N - s - 1) (p := s + 1)
      omega
    have kc : kC T N s = if tE T N s = s + 4 ∧ T s = 103 ∧ T (s + 1) = 111 ∧ T (s + 2) = 111 ∧ T (s + 3) = 100 then 1 else if tE T N s = s + 4 ∧ T s = 108 ∧ T (s + 1) = 97 ∧ T (s + 2) = 110 ∧ T (s + 3) = 100 then 2 else 5 := by
      unfold kC
      rw [if_pos c0, if_pos c1]
    have k1 : kC T N s = 1 ↔ tE T N s = s + 4 ∧ T s = 103 ∧ T (s + 1) = 111 ∧ T (s + 2) = 111 ∧ T (s + 3) = 100 := by
      rw [kc]
      split
      · simp_all
      · split <;> simp_all
    have k2 : kC T N s = 2 ↔ tE T N s = s + 4 ∧ T s = 108 ∧ T (s + 1) = 97 ∧ T (s + 2) = 110 ∧ T (s + 3) = 100 := by
      rw [kc]
      split
      · rename_i z
        omega
      · split <;> simp_all
    rw [k1, k2]
    generalize tE T N s = e at *
    by_cases c8 : e - s < 8
    · have w := wv_lt (T := T) (s := s) (k := e - s) (fun i hi => ht.2 _ (by omega))
      have p7 : 256 ^ (e - s) ≤ 256 ^ 7 := Nat.pow_le_pow_right (by decide) (by omega)
      refine ⟨wv T s (e - s), by omega, p7_word7 ht h1 (by rw [h20, c]) h21 h22 el.2 c8 (e - s) fuel0 0 (by omega) (by unfold fuel0; omega), ?_⟩
      have a0 := al (s + 0) (by omega) (by omega)
      rcases (show e - s = 1 ∨ e - s = 2 ∨ e - s = 3 ∨ e - s = 4 ∨ e - s = 5 ∨ e - s = 6 ∨ e - s = 7 by omega) with q | q | q | q | q | q | q
      · rw [q]
        show (0 * 256 + T (s + 0) = _ ↔ _) ∧ (0 * 256 + T (s + 0) = _ ↔ _)
        omega
      · have a1 := al (s + 1) (by omega) (by omega)
        rw [q]
        show ((0 * 256 + T (s + 0)) * 256 + T (s + 1) = _ ↔ _) ∧ ((0 * 256 + T (s + 0)) * 256 + T (s + 1) = _ ↔ _)
        omega
      · have a1 := al (s + 1) (by omega) (by omega)
        have a2 := al (s + 2) (by omega) (by omega)
        rw [q]
        show (((0 * 256 + T (s + 0)) * 256 + T (s + 1)) * 256 + T (s + 2) = _ ↔ _) ∧ (((0 * 256 + T (s + 0)) * 256 + T (s + 1)) * 256 + T (s + 2) = _ ↔ _)
        omega
      · have a1 := al (s + 1) (by omega) (by omega)
        have a2 := al (s + 2) (by omega) (by omega)
        have a3 := al (s + 3) (by omega) (by omega)
        rw [q]
        show ((((0 * 256 + T (s + 0)) * 256 + T (s + 1)) * 256 + T (s + 2)) * 256 + T (s + 3) = _ ↔ _) ∧ ((((0 * 256 + T (s + 0)) * 256 + T (s + 1)) * 256 + T (s + 2)) * 256 + T (s + 3) = _ ↔ _)
        rw [Nat.add_zero] at a0 ⊢
        omega
      · have hw : wv T s (e - s) = (wv T s 4) * 256 + T (s + 4) := by rw [q]; rfl
        have h4 : wv T s 4 = (((0 * 256 + T (s + 0)) * 256 + T (s + 1)) * 256 + T (s + 2)) * 256 + T (s + 3) := rfl
        omega
      · have hw : wv T s (e - s) = ((wv T s 4) * 256 + T (s + 4)) * 256 + T (s + 5) := by rw [q]; rfl
        have h4 : wv T s 4 = (((0 * 256 + T (s + 0)) * 256 + T (s + 1)) * 256 + T (s + 2)) * 256 + T (s + 3) := rfl
        omega
      · have hw : wv T s (e - s) = (((wv T s 4) * 256 + T (s + 4)) * 256 + T (s + 5)) * 256 + T (s + 6) := by rw [q]; rfl
        have h4 : wv T s 4 = (((0 * 256 + T (s + 0)) * 256 + T (s + 1)) * 256 + T (s + 2)) * 256 + T (s + 3) := rfl
        omega
    · refine ⟨0, by decide, ?_, by omega, by omega⟩
      rw [show fuel0 = 999 + 1 from rfl, f7_word_7]
      dsimp only
      rw [h22, if_neg (nI_ge (by omega) (by omega)), h20, c, if_pos (show nI 2 = (2 : Int32) from rfl), h21, pk_sub (by omega), show (8 : Int32) = nI 8 from rfl, if_pos (nI_le (by omega) (by omega))]
      rfl
  · refine ⟨0, by decide, ?_, ?_, ?_⟩
    · rw [show fuel0 = 999 + 1 from rfl, f7_word_7]
      dsimp only
      rw [h20, show (2 : Int32) = nI 2 from rfl, if_neg (fun z => c ((nI_eq (by have := kM_lt (T := T) (N := N) (s := s); omega) (by decide)).mp z))]
      split <;> rfl
    · have : ¬ kC T N s = 1 := by
        intro z
        apply c
        unfold kC at z
        unfold kM
        by_cases c0 : s < N
        · rw [if_pos c0] at z ⊢
          by_cases c1 : isLt (T s) = true
          · rw [if_pos c1]
          · rw [if_neg c1] at z
            exfalso
            split at z
            · split at z <;> omega
            · split at z <;> omega
        · rw [if_neg c0] at z
          omega
      omega
    · have : ¬ kC T N s = 2 := by
        intro z
        apply c
        unfold kC at z
        unfold kM
        by_cases c0 : s < N
        · rw [if_pos c0] at z ⊢
          by_cases c1 : isLt (T s) = true
          · rw [if_pos c1]
          · rw [if_neg c1] at z
            exfalso
            split at z
            · split at z <;> omega
            · split at z <;> omega
        · rw [if_neg c0] at z
          omega
      omega
theorem p7_isWord (ht : txt N T) {s : Nat} (h : mt S T N s) : f7_isWord S 1735356260 = some (if kC T N s = 1 then 1 else 0) ∧ f7_isWord S 1818324580 = some (if kC T N s = 2 then 1 else 0) := by
  obtain ⟨x, x1, x2, x3, x4⟩ := p7_word ht h
  unfold f7_isWord
  rw [h.2.2.2.2.2.2, if_pos rfl, if_pos rfl, x2, bd1s, bd1s]
  constructor
  · by_cases c : kC T N s = 1
    · rw [if_pos c, if_pos (by rw [x3.mpr c]; rfl)]
    · rw [if_neg c, show (1735356260 : Int64) = lN 1735356260 from rfl, if_neg (fun z => c (x3.mp ((pk_lEQ (by omega) (by decide)).mp z)))]
  · by_cases c : kC T N s = 2
    · rw [if_pos c, if_pos (by rw [x4.mpr c]; rfl)]
    · rw [if_neg c, show (1818324580 : Int64) = lN 1818324580 from rfl, if_neg (fun z => c (x4.mp ((pk_lEQ (by omega) (by decide)).mp z)))]
end TM
