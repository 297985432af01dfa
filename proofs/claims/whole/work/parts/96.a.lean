/-! READING: tokens -/
def isBl (b : Nat) : Bool := b == 32 || b == 10
def isLt (b : Nat) : Bool := decide (97 ≤ b ∧ b ≤ 122)
def isFg (b : Nat) : Bool := decide (48 ≤ b ∧ b ≤ 57)
/-- the first of n places from p on that P doesn't hold of -/
def rn (P : Nat → Bool) (T : Nat → Nat) : Nat → Nat → Nat
  | 0, p => p
  | n + 1, p => if P (T p) = true then rn P T n (p + 1) else p
theorem rn_le {P : Nat → Bool} {T : Nat → Nat} : ∀ {n p : Nat}, p ≤ rn P T n p ∧ rn P T n p ≤ p + n := by
  intro n
  induction n with
  | zero => intro p; exact ⟨Nat.le_refl _, Nat.le_refl _⟩
  | succ n ih =>
    intro p
    rw [rn]
    split
    · have := ih (p := p + 1)
      omega
    · omega
theorem rn_all {P : Nat → Bool} {T : Nat → Nat} : ∀ {n p k : Nat}, p ≤ k → k < rn P T n p → P (T k) = true := by
  intro n
  induction n with
  | zero => intro p k h1 h2; rw [rn] at h2; omega
  | succ n ih =>
    intro p k h1 h2
    rw [rn] at h2
    by_cases c : P (T p) = true
    · rw [if_pos c] at h2
      by_cases e : k = p
      · rw [e]; exact c
      · exact ih (by omega) h2
    · rw [if_neg c] at h2
      omega
theorem rn_stop {P : Nat → Bool} {T : Nat → Nat} : ∀ {n p : Nat}, rn P T n p < p + n → P (T (rn P T n p)) = false := by
  intro n
  induction n with
  | zero => intro p h; rw [rn] at h; omega
  | succ n ih =>
    intro p h
    rw [rn] at h ⊢
    by_cases c : P (T p) = true
    · rw [if_pos c] at h ⊢
      exact ih (by omega)
    · rw [if_neg c]
      simpa using c
theorem by_let : ∀ v, v < 256 → f3_isLetter ((nI v).toInt8.toInt32) = (if isLt v = true then 1 else 0) ∧ f7_isLetter (nI v) = (if isLt v = true then 1 else 0) := by decide +kernel
theorem by_fig : ∀ v, v < 256 → f3_isFigure ((nI v).toInt8.toInt32) = (if isFg v = true then 1 else 0) ∧ f7_isFigure (nI v) = (if isFg v = true then 1 else 0) := by decide +kernel
theorem by_32 : ∀ v, v < 256 → ((nI v).toInt8.toInt32 = 32 ↔ v = 32) ∧ ((nI v).toInt8.toInt32 = 10 ↔ v = 10) ∧ ((nI v).toInt8.toInt32 = 59 ↔ v = 59) := by decide +kernel
theorem bm_32 : ∀ v, v < 256 → (nI v = 32 ↔ v = 32) ∧ (nI v = 10 ↔ v = 10) ∧ (nI v = 59 ↔ v = 59) ∧ ¬ nI v = -1000000 := by decide +kernel
theorem by_dig : ∀ v, v < 256 → isFg v = true → (nI v).toInt8.toInt32 - 48 = nI (v - 48) := by decide +kernel
def wdc (q i : Nat) : Nat := if q = 1000 then (if i = 0 then 103 else if i = 1 then 111 else if i = 2 then 111 else 100) else (if i = 0 then 108 else if i = 1 then 97 else if i = 2 then 110 else 100)
theorem by_w0 : ∀ i, i < 4 → fT_ch 1000 (nI i) = nI (wdc 1000 i) ∧ fT_ch 1001 (nI i) = nI (wdc 1001 i) ∧ wdc 1000 i < 128 ∧ wdc 1001 i < 128 := by decide +kernel
theorem by_w1 : ∀ v, v < 256 → ∀ w, w < 128 → ((nI v).toInt8.toInt32 = nI w ↔ v = w) := by decide +kernel
/-- the text: N bytes T -/
def txt (N : Nat) (T : Nat → Nat) : Prop := N ≤ 400 ∧ ∀ k, k < N → T k < 256
def tpC (C : Zs) (N : Nat) (T : Nat → Nat) : Prop := C.1 13 1 = nI N ∧ ∀ k, k < N → C.1 14 k = (nI (T k)).toInt8.toInt32
def tpM (M : Zs) (N : Nat) (T : Nat → Nat) : Prop := M.1 0 18 = nI N ∧ ∀ k, k < N → M.1 10 k = nI (T k)
/-- what step and next may change -/
def c4 (C C' : Zs) : Prop := C'.2 = C.2 ∧ (∀ a, a ≠ 13 → C'.1 a = C.1 a) ∧ ∀ b, (b < 4 ∨ 8 ≤ b) → C'.1 13 b = C.1 13 b
def m4 (M M' : Zs) : Prop := M'.2 = M.2 ∧ (∀ a, a ≠ 0 → M'.1 a = M.1 a) ∧ ∀ b, (b < 19 ∨ 23 ≤ b) → M'.1 0 b = M.1 0 b
theorem c4.rf {C : Zs} : c4 C C := ⟨rfl, fun _ _ => rfl, fun _ _ => rfl⟩
theorem c4.tr {C C' C'' : Zs} (h : c4 C C') (h' : c4 C' C'') : c4 C C'' := ⟨h'.1.trans h.1, fun a e => (h'.2.1 a e).trans (h.2.1 a e), fun b e => (h'.2.2 b e).trans (h.2.2 b e)⟩
theorem c4.z {C : Zs} {j : Nat} {v : Int32} (hj : 4 ≤ j ∧ j < 8) : c4 C (zI C 13 j v) := ⟨rfl, fun a e => zI_1n _ _ _ e, fun b e => by rw [zI_rd, if_neg (by omega)]⟩
theorem m4.rf {C : Zs} : m4 C C := ⟨rfl, fun _ _ => rfl, fun _ _ => rfl⟩
theorem m4.tr {C C' C'' : Zs} (h : m4 C C') (h' : m4 C' C'') : m4 C C'' := ⟨h'.1.trans h.1, fun a e => (h'.2.1 a e).trans (h.2.1 a e), fun b e => (h'.2.2 b e).trans (h.2.2 b e)⟩
theorem m4.z {C : Zs} {j : Nat} {v : Int32} (hj : 19 ≤ j ∧ j < 23) : m4 C (zI C 0 j v) := ⟨rfl, fun a e => zI_1n _ _ _ e, fun b e => by rw [zI_rd, if_neg (by omega)]⟩
theorem tpC_4 {C C' : Zs} {N : Nat} {T : Nat → Nat} (h : tpC C N T) (k : c4 C C') : tpC C' N T := ⟨(k.2.2 1 (by omega)).trans h.1, fun x hx => by rw [k.2.1 14 (by decide)]; exact h.2 x hx⟩
theorem tpM_4 {C C' : Zs} {N : Nat} {T : Nat → Nat} (h : tpM C N T) (k : m4 C C') : tpM C' N T := ⟨(k.2.2 18 (by omega)).trans h.1, fun x hx => by rw [k.2.1 10 (by decide)]; exact h.2 x hx⟩
def gw (T : Nat → Nat) (s e : Nat) : Prop := e = s + 4 ∧ T s = 103 ∧ T (s + 1) = 111 ∧ T (s + 2) = 111 ∧ T (s + 3) = 100
def lw (T : Nat → Nat) (s e : Nat) : Prop := e = s + 4 ∧ T s = 108 ∧ T (s + 1) = 97 ∧ T (s + 2) = 110 ∧ T (s + 3) = 100
def tS (T : Nat → Nat) (N p : Nat) : Nat := rn isBl T (N - p) p
def tE (T : Nat → Nat) (N s : Nat) : Nat := if s < N then (if isLt (T s) = true then rn isLt T (N - s) s else if isFg (T s) = true then rn isFg T (N - s) s else s + 1) else s
/-- the kind of the token, as the class tells it -/
def kC (T : Nat → Nat) (N s : Nat) : Nat := if s < N then (if isLt (T s) = true then (if tE T N s = s + 4 ∧ T s = 103 ∧ T (s + 1) = 111 ∧ T (s + 2) = 111 ∧ T (s + 3) = 100 then 1 else if tE T N s = s + 4 ∧ T s = 108 ∧ T (s + 1) = 97 ∧ T (s + 2) = 110 ∧ T (s + 3) = 100 then 2 else 5) else if isFg (T s) = true then (if tE T N s ≤ s + 2 then 3 else 5) else if T s = 59 then 4 else 5) else 0
/-- and the reference -/
def kM (T : Nat → Nat) (N s : Nat) : Nat := if s < N then (if isLt (T s) = true then 2 else if isFg (T s) = true then (if tE T N s ≤ s + 2 then 3 else 0) else if T s = 59 then 4 else 0) else 1
/-- the value of the first k figures -/
def dv (T : Nat → Nat) (s : Nat) : Nat → Nat
  | 0 => 0
  | k + 1 => dv T s k * 10 + (T (s + k) - 48)
theorem fg9 {v : Nat} (h : isFg v = true) : 48 ≤ v ∧ v ≤ 57 := by
  unfold isFg at h
  exact of_decide_eq_true h
theorem lt26 {v : Nat} (h : isLt v = true) : 97 ≤ v ∧ v ≤ 122 := by
  unfold isLt at h
  exact of_decide_eq_true h
theorem dv_le {T : Nat → Nat} {s k : Nat} (hk : k ≤ 2) (h : ∀ i, i < k → isFg (T (s + i)) = true) : dv T s k ≤ 99 := by
  rcases (show k = 0 ∨ k = 1 ∨ k = 2 by omega) with rfl | rfl | rfl
  · exact Nat.zero_le _
  · have := fg9 (h 0 (by omega))
    show 0 * 10 + (T (s + 0) - 48) ≤ 99
    omega
  · have h0 := fg9 (h 0 (by omega))
    have h1 := fg9 (h 1 (by omega))
    show (0 * 10 + (T (s + 0) - 48)) * 10 + (T (s + 1) - 48) ≤ 99
    omega
theorem tE_le {T : Nat → Nat} {N s : Nat} (h : s ≤ N) : s ≤ tE T N s ∧ tE T N s ≤ N := by
  unfold tE
  have a := rn_le (P := isLt) (T := T) (n := N - s) (p := s)
  have b := rn_le (P := isFg) (T := T) (n := N - s) (p := s)
  split
  · split
    · omega
    · split <;> omega
  · omega
theorem tS_le {T : Nat → Nat} {N p : Nat} (h : p ≤ N) : p ≤ tS T N p ∧ tS T N p ≤ N := by
  unfold tS
  have a := rn_le (P := isBl) (T := T) (n := N - p) (p := p)
  omega
section TC
variable {S : Zs} {N : Nat} {T : Nat → Nat}
/-! the class -/
theorem p3_isWord (ht : txt N T) (h : tpC S N T) {q s e : Nat} (hq : q = 1000 ∨ q = 1001) (h4 : S.1 13 4 = nI s) (h5 : S.1 13 5 = nI e) (hs : s ≤ e) (he : e ≤ N) : f3_isWord q S = some (if e = s + 4 ∧ T s = wdc q 0 ∧ T (s + 1) = wdc q 1 ∧ T (s + 2) = wdc q 2 ∧ T (s + 3) = wdc q 3 then 1 else 0) := by
  have hN := ht.1
  have ch : ∀ i, i < 4 → fT_ch q (nI i) = nI (wdc q i) ∧ wdc q i < 128 := by
    intro i hi
    have := by_w0 i hi
    rcases hq with rfl | rfl
    · exact ⟨this.1, this.2.2.1⟩
    · exact ⟨this.2.1, this.2.2.2⟩
  unfold f3_isWord
  rw [h4, h5, pk_sub hs, show (4 : Int32) = nI 4 from rfl]
  by_cases c : e - s = 4
  · rw [if_pos (by rw [c])]
    have st : ∀ n i, i < 4 → f3_isWord_20 q S (n + 1) (nI i) = if T (s + i) = wdc q i then f3_isWord_20 q S n (nI (i + 1)) else some 0 := by
      intro n i hi
      have b := ht.2 (s + i) (by omega)
      rw [f3_isWord_20]
      dsimp only
      rw [h4, show (4 : Int32) = nI 4 from rfl, if_neg (nI_ge hi (by omega)), nI_add, if_pos (inb_nI (by omega) (by decide)), if_pos (inb_nI hi (by decide)), nI_clamp (by omega), h.2 (s + i) (by omega), (ch i hi).1, ltt, show nI i + 1 = nI (i + 1) from nI_1 _]
      by_cases c2 : T (s + i) = wdc q i
      · rw [if_pos c2, if_pos ((by_w1 _ b _ (ch i hi).2).mpr c2)]
      · rw [if_neg c2, if_neg (fun z => c2 ((by_w1 _ b _ (ch i hi).2).mp z))]
    have en : f3_isWord_20 q S 996 (nI 4) = some 1 := by
      rw [show (996 : Nat) = 995 + 1 from rfl, f3_isWord_20]
      dsimp only
      rw [show (4 : Int32) = nI 4 from rfl, if_pos (nI_le (Nat.le_refl 4) (by omega))]
    rw [show fuel0 = 999 + 1 from rfl, show (0 : Int32) = nI 0 from rfl, st 999 0 (by omega), st 998 1 (by omega), st 997 2 (by omega), st 996 3 (by omega), en]
    by_cases c0 : T (s + 0) = wdc q 0
    · rw [if_pos c0]
      by_cases c1 : T (s + 1) = wdc q 1
      · rw [if_pos c1]
        by_cases c2 : T (s + 2) = wdc q 2
        · rw [if_pos c2]
          by_cases c3 : T (s + 3) = wdc q 3
          · rw [if_pos c3, if_pos ⟨by omega, c0, c1, c2, c3⟩]
          · rw [if_neg c3, if_neg (fun z => c3 z.2.2.2.2)]
            rfl
        · rw [if_neg c2, if_neg (fun z => c2 z.2.2.2.1)]
          rfl
      · rw [if_neg c1, if_neg (fun z => c1 z.2.2.1)]
        rfl
    · rw [if_neg c0, if_neg (fun z => c0 z.2.1)]
      rfl
  · rw [if_neg (fun z => c ((nI_eq (by omega) (by omega)).mp z)), if_neg (by omega)]
theorem p3_name (ht : txt N T) {s : Nat} : ∀ r n p (S : Zs), p + r = N → r < n → tpC S N T → S.1 13 4 = nI s → S.1 13 5 = nI p → ∃ S', f3_takeName_0 n S = f3_takeName_39 S' ∧ c4 S S' ∧ S'.1 13 4 = nI s ∧ S'.1 13 5 = nI (rn isLt T r p) := by
  have hN := ht.1
  intro r
  induction r with
  | zero =>
    intro n p S hp hn h h4 h5
    obtain ⟨n, rfl⟩ : ∃ k, n = k + 1 := ⟨n - 1, by omega⟩
    rw [f3_takeName_0]
    dsimp only
    rw [h.1, h5, if_pos (nI_le (by omega) (by omega))]
    exact ⟨S, rfl, c4.rf, h4, h5⟩
  | succ r ih =>
    intro n p S hp hn h h4 h5
    obtain ⟨n, rfl⟩ : ∃ k, n = k + 1 := ⟨n - 1, by omega⟩
    have b := ht.2 p (by omega)
    rw [f3_takeName_0]
    dsimp only
    rw [h.1, h5, if_neg (nI_ge (by omega) (by omega)), if_pos (inb_nI (by omega) (by decide)), nI_clamp (by omega), h.2 p (by omega), (by_let _ b).1, ltt, show nI p + 1 = nI (p + 1) from nI_1 _, rn]
    by_cases c : isLt (T p) = true
    · rw [if_pos c, if_neg i10, if_pos c]
      obtain ⟨S', a1, a2, a3, a4⟩ := ih n (p + 1) (zI S 13 5 (nI (p + 1))) (by omega) (by omega) (tpC_4 h (c4.z (by omega))) (by rw [zI_rd, if_neg (by decide)]; exact h4) (by rw [zI_rd, if_pos ⟨rfl, rfl⟩])
      exact ⟨S', a1, (c4.z (by omega)).tr a2, a3, a4⟩
    · rw [if_neg c, if_pos rfl, if_neg c]
      exact ⟨S, rfl, c4.rf, h4, h5⟩
theorem p3_name39 (ht : txt N T) (h : tpC S N T) {s e : Nat} (h4 : S.1 13 4 = nI s) (h5 : S.1 13 5 = nI e) (hs : s ≤ e) (he : e ≤ N) : ∃ S', f3_takeName_39 S = some S' ∧ c4 S S' ∧ S'.1 13 4 = nI s ∧ S'.1 13 5 = nI e ∧ S'.1 13 6 = nI (if e = s + 4 ∧ T s = 103 ∧ T (s + 1) = 111 ∧ T (s + 2) = 111 ∧ T (s + 3) = 100 then 1 else if e = s + 4 ∧ T s = 108 ∧ T (s + 1) = 97 ∧ T (s + 2) = 110 ∧ T (s + 3) = 100 then 2 else 5) := by
  have h' : tpC (zI S 13 6 5) N T := tpC_4 h (c4.z (by omega))
  have h4' : (zI S 13 6 5).1 13 4 = nI s := by rw [zI_rd, if_neg (by decide)]; exact h4
  have h5' : (zI S 13 6 5).1 13 5 = nI e := by rw [zI_rd, if_neg (by decide)]; exact h5
  unfold f3_takeName_39
  rw [ltt, p3_isWord ht h' (q := 1000) (Or.inl rfl) h4' h5' hs he, bd1s]
  by_cases c : e = s + 4 ∧ T s = wdc 1000 0 ∧ T (s + 1) = wdc 1000 1 ∧ T (s + 2) = wdc 1000 2 ∧ T (s + 3) = wdc 1000 3
  · rw [if_pos c, if_neg i10, ltt]
    exact ⟨_, rfl, (c4.z (by omega)).tr (c4.z (by omega)), by rw [zI_rd, if_neg (by decide)]; exact h4', by rw [zI_rd, if_neg (by decide)]; exact h5', by rw [zI_rd, if_pos ⟨rfl, rfl⟩, if_pos (show e = s + 4 ∧ T s = 103 ∧ T (s + 1) = 111 ∧ T (s + 2) = 111 ∧ T (s + 3) = 100 from c)]; rfl⟩
  · rw [if_neg c, if_pos rfl, p3_isWord ht h' (q := 1001) (Or.inr rfl) h4' h5' hs he, bd1s]
    by_cases c2 : e = s + 4 ∧ T s = wdc 1001 0 ∧ T (s + 1) = wdc 1001 1 ∧ T (s + 2) = wdc 1001 2 ∧ T (s + 3) = wdc 1001 3
    · rw [if_pos c2, if_neg i10, ltt]
      exact ⟨_, rfl, (c4.z (by omega)).tr (c4.z (by omega)), by rw [zI_rd, if_neg (by decide)]; exact h4', by rw [zI_rd, if_neg (by decide)]; exact h5', by rw [zI_rd, if_pos ⟨rfl, rfl⟩, if_neg (show ¬ (e = s + 4 ∧ T s = 103 ∧ T (s + 1) = 111 ∧ T (s + 2) = 111 ∧ T (s + 3) = 100) from c), if_pos (show e = s + 4 ∧ T s = 108 ∧ T (s + 1) = 97 ∧ T (s + 2) = 110 ∧ T (s + 3) = 100 from c2)]; rfl⟩
    · rw [if_neg c2, if_pos rfl]
      exact ⟨_, rfl, c4.z (by omega), h4', h5', by rw [zI_rd, if_pos ⟨rfl, rfl⟩, if_neg (show ¬ (e = s + 4 ∧ T s = 103 ∧ T (s + 1) = 111 ∧ T (s + 2) = 111 ∧ T (s + 3) = 100) from c), if_neg (show ¬ (e = s + 4 ∧ T s = 108 ∧ T (s + 1) = 97 ∧ T (s + 2) = 110 ∧ T (s + 3) = 100) from c2)]; rfl⟩
theorem p3_num (ht : txt N T) {s : Nat} : ∀ r n p (S : Zs), p + r = N → r < n → s ≤ p → tpC S N T → S.1 13 4 = nI s → S.1 13 5 = nI p → S.1 13 7 = nI (dv T s (min (p - s) 2)) → (∀ k, s ≤ k → k < p → isFg (T k) = true) → ∃ S', f3_takeNumber_5 n S = f3_takeNumber_81 S' ∧ c4 S S' ∧ S'.1 13 4 = nI s ∧ S'.1 13 5 = nI (rn isFg T r p) ∧ S'.1 13 7 = nI (dv T s (min (rn isFg T r p - s) 2)) := by
  have hN := ht.1
  intro r
  induction r with
  | zero =>
    intro n p S hp hn hs h h4 h5 h7 hf
    obtain ⟨n, rfl⟩ : ∃ k, n = k + 1 := ⟨n - 1, by omega⟩
    rw [f3_takeNumber_5]
    dsimp only
    rw [h.1, h5, if_pos (nI_le (by omega) (by omega))]
    exact ⟨S, rfl, c4.rf, h4, h5, h7⟩
  | succ r ih =>
    intro n p S hp hn hs h h4 h5 h7 hf
    obtain ⟨n, rfl⟩ : ∃ k, n = k + 1 := ⟨n - 1, by omega⟩
    have b := ht.2 p (by omega)
    rw [f3_takeNumber_5]
    dsimp only
    rw [h.1, h5, h4, if_neg (nI_ge (by omega) (by omega)), if_pos (inb_nI (by omega) (by decide)), nI_clamp (by omega), h.2 p (by omega), (by_fig _ b).1, pk_sub hs, show (2 : Int32) = nI 2 from rfl, rn]
    by_cases c : isFg (T p) = true
    · rw [if_pos c, if_neg i10, if_pos c, iNle (by omega) (by omega)]
      have hf' : ∀ k, s ≤ k → k < p + 1 → isFg (T k) = true := fun k k1 k2 => by
        by_cases e : k = p
        · rw [e]; exact c
        · exact hf k k1 (by omega)
      unfold f3_takeNumber_68
      by_cases c2 : 2 ≤ p - s
      · rw [if_pos c2, ltt, h5, show nI p + 1 = nI (p + 1) from nI_1 _]
        obtain ⟨S', a1, a2, a3, a4, a5⟩ := ih n (p + 1) (zI S 13 5 (nI (p + 1))) (by omega) (by omega) (by omega) (tpC_4 h (c4.z (by omega))) (by rw [zI_rd, if_neg (by decide)]; exact h4) (by rw [zI_rd, if_pos ⟨rfl, rfl⟩]) (by rw [zI_rd, if_neg (by decide), h7, show min (p - s) 2 = min (p + 1 - s) 2 by omega]) hf'
        exact ⟨S', a1, (c4.z (by omega)).tr a2, a3, a4, a5⟩
      · have f9 := fg9 c
        have dle := dv_le (T := T) (s := s) (k := p - s) (by omega) (fun i hi => hf _ (by omega) (by omega))
        have e7 : S.1 13 7 * 10 + ((nI (T p)).toInt8.toInt32 - 48) = nI (dv T s (min (p + 1 - s) 2)) := by
          rw [h7, by_dig _ b c, show (10 : Int32) = nI 10 from rfl, pk_mul, nI_add, show min (p + 1 - s) 2 = (p - s) + 1 by omega, show min (p - s) 2 = p - s by omega]
          show _ = nI (dv T s (p - s) * 10 + (T (s + (p - s)) - 48))
          rw [show s + (p - s) = p by omega]
        rw [if_neg c2, if_pos (inb_nI (by omega) (by decide)), ltt, e7, ltt, zI_rd, if_neg (by decide), h5, show nI p + 1 = nI (p + 1) from nI_1 _]
        obtain ⟨S', a1, a2, a3, a4, a5⟩ := ih n (p + 1) (zI (zI S 13 7 (nI (dv T s (min (p + 1 - s) 2)))) 13 5 (nI (p + 1))) (by omega) (by omega) (by omega) (tpC_4 h ((c4.z (by omega)).tr (c4.z (by omega)))) (by rw [zI_rd, if_neg (by decide), zI_rd, if_neg (by decide)]; exact h4) (by rw [zI_rd, if_pos ⟨rfl, rfl⟩]) (by rw [zI_rd, if_neg (by decide), zI_rd, if_pos ⟨rfl, rfl⟩]) hf'
        exact ⟨S', a1, ((c4.z (by omega)).tr (c4.z (by omega))).tr a2, a3, a4, a5⟩
    · rw [if_neg c, if_pos rfl, if_neg c]
      exact ⟨S, rfl, c4.rf, h4, h5, h7⟩
theorem p3_blank (ht : txt N T) : ∀ r n p (S : Zs), p + r = N → r < n → tpC S N T → S.1 13 4 = nI p → ∃ S', f3_step_8 n S = f3_step_60 S' ∧ c4 S S' ∧ S'.1 13 4 = nI (rn isBl T r p) := by
  have hN := ht.1
  intro r
  induction r with
  | zero =>
    intro n p S hp hn h h4
    obtain ⟨n, rfl⟩ : ∃ k, n = k + 1 := ⟨n - 1, by omega⟩
    rw [f3_step_8]
    dsimp only
    rw [h.1, h4, if_pos (nI_le (by omega) (by omega))]
    exact ⟨S, rfl, c4.rf, h4⟩
  | succ r ih =>
    intro n p S hp hn h h4
    obtain ⟨n, rfl⟩ : ∃ k, n = k + 1 := ⟨n - 1, by omega⟩
    have b := ht.2 p (by omega)
    have b2 := by_32 _ b
    rw [f3_step_8]
    dsimp only
    rw [h.1, h4, if_neg (nI_ge (by omega) (by omega)), if_pos (inb_nI (by omega) (by decide)), if_pos (inb_nI (by omega) (by decide)), nI_clamp (by omega), h.2 p (by omega), rn]
    have go : ∃ S', f3_step_47 (f3_step_8 n) S = f3_step_60 S' ∧ c4 S S' ∧ S'.1 13 4 = nI (rn isBl T r (p + 1)) := by
      unfold f3_step_47
      rw [ltt, h4, show nI p + 1 = nI (p + 1) from nI_1 _]
      obtain ⟨S', a1, a2, a3⟩ := ih n (p + 1) (zI S 13 4 (nI (p + 1))) (by omega) (by omega) (tpC_4 h (c4.z (by omega))) (by rw [zI_rd, if_pos ⟨rfl, rfl⟩])
      exact ⟨S', a1, (c4.z (by omega)).tr a2, a3⟩
    by_cases c1 : T p = 32
    · rw [if_pos (b2.1.mpr c1), if_pos (by rw [c1]; rfl)]
      exact go
    · rw [if_neg (fun z => c1 (b2.1.mp z))]
      by_cases c2 : T p = 10
      · rw [if_pos (b2.2.1.mpr c2), if_pos (by rw [c2]; rfl)]
        exact go
      · rw [if_neg (fun z => c2 (b2.2.1.mp z)), if_neg (by unfold isBl; simp [c1, c2])]
        exact ⟨S, rfl, c4.rf, h4⟩
theorem p3_step (ht : txt N T) (h : tpC S N T) {p : Nat} (hp : p ≤ N) (h5 : S.1 13 5 = nI p) : ∃ S', f3_step S = some S' ∧ c4 S S' ∧ S'.1 13 4 = nI (tS T N p) ∧ S'.1 13 5 = nI (tE T N (tS T N p)) ∧ S'.1 13 6 = nI (kC T N (tS T N p)) ∧ (kC T N (tS T N p) = 3 → S'.1 13 7 = nI (dv T (tS T N p) (tE T N (tS T N p) - tS T N p))) := by
  have hN := ht.1
  unfold f3_step
  rw [ltt, h5]
  obtain ⟨S1, a1, a2, a3⟩ := p3_blank ht (N - p) fuel0 p (zI S 13 4 (nI p)) (by omega) (by unfold fuel0; omega) (tpC_4 h (c4.z (by omega))) (by rw [zI_rd, if_pos ⟨rfl, rfl⟩])
  have sl := tS_le (T := T) hp
  rw [a1]
  rw [show rn isBl T (N - p) p = tS T N p from rfl] at a3
  generalize tS T N p = s at *
  have el := tE_le (T := T) (N := N) (s := s) (by omega)
  have k0 : c4 S S1 := (c4.z (by omega)).tr a2
  have h1 : tpC S1 N T := tpC_4 h k0
  unfold f3_step_60
  rw [ltt, a3]
  have k1 : c4 S (zI S1 13 5 (nI s)) := k0.tr (c4.z (by omega))
  have h2 : tpC (zI S1 13 5 (nI s)) N T := tpC_4 h1 (c4.z (by omega))
  have e4 : (zI S1 13 5 (nI s)).1 13 4 = nI s := by rw [zI_rd, if_neg (by decide)]; exact a3
  have e5 : (zI S1 13 5 (nI s)).1 13 5 = nI s := by rw [zI_rd, if_pos ⟨rfl, rfl⟩]
  generalize zI S1 13 5 (nI s) = S2 at *
  rw [e4, h2.1, iNlt (by omega) (by omega)]
  by_cases c0 : s < N
  · have b := ht.2 s c0
    rw [if_pos c0, if_pos (inb_nI (by omega) (by decide)), if_pos (inb_nI (by omega) (by decide)), if_pos (inb_nI (by omega) (by decide)), nI_clamp (by omega), h2.2 s c0, (by_let _ b).1, (by_fig _ b).1]
    unfold kC
    rw [if_pos c0]
    by_cases c1 : isLt (T s) = true
    · rw [if_pos c1, if_neg i10, if_pos c1]
      obtain ⟨S3, b1, b2, b3, b4⟩ := p3_name ht (s := s) (N - s) fuel0 s S2 (by omega) (by unfold fuel0; omega) h2 e4 e5
      have eE : tE T N s = rn isLt T (N - s) s := by unfold tE; rw [if_pos c0, if_pos c1]
      rw [← eE] at b4
      obtain ⟨S4, d1, d2, d3, d4, d5⟩ := p3_name39 ht (tpC_4 h2 b2) b3 b4 el.1 el.2
      unfold f3_takeName
      rw [b1, d1, bd1s]
      refine ⟨S4, rfl, (k1.tr b2).tr d2, d3, d4, d5, fun z => ?_⟩
      exfalso
      split at z
      · exact absurd z (by decide)
      · split at z <;> exact absurd z (by decide)
    · rw [if_neg c1, if_pos rfl, if_neg c1]
      by_cases c2 : isFg (T s) = true
      · rw [if_pos c2, if_neg i10, if_pos c2]
        unfold f3_takeNumber
        rw [ltt]
        obtain ⟨S3, b1, b2, b3, b4, b5⟩ := p3_num ht (s := s) (N - s) fuel0 s (zI S2 13 7 0) (by omega) (by unfold fuel0; omega) (Nat.le_refl _) (tpC_4 h2 (c4.z (by omega))) (by rw [zI_rd, if_neg (by decide)]; exact e4) (by rw [zI_rd, if_neg (by decide)]; exact e5) (by rw [zI_rd, if_pos ⟨rfl, rfl⟩, Nat.sub_self]; rfl) (fun k k1 k2 => by omega)
        have eE : tE T N s = rn isFg T (N - s) s := by unfold tE; rw [if_pos c0, if_neg c1, if_pos c2]
        rw [← eE] at b4 b5
        rw [b1]
        unfold f3_takeNumber_81 f3_takeNumber_100
        rw [b4, b3, pk_sub el.1, show (2 : Int32) = nI 2 from rfl, iNlt (by omega) (by omega), ltt, ltt]
        by_cases c3 : 2 < tE T N s - s
        · rw [if_pos c3, bd1s, if_neg (show ¬ tE T N s ≤ s + 2 by omega)]
          exact ⟨_, rfl, ((k1.tr (c4.z (by omega))).tr b2).tr (c4.z (by omega)), by rw [zI_rd, if_neg (by decide)]; exact b3, by rw [zI_rd, if_neg (by decide)]; exact b4, by rw [zI_rd, if_pos ⟨rfl, rfl⟩]; rfl, fun z => absurd z (by decide)⟩
        · rw [if_neg c3, bd1s, if_pos (show tE T N s ≤ s + 2 by omega)]
          exact ⟨_, rfl, ((k1.tr (c4.z (by omega))).tr b2).tr (c4.z (by omega)), by rw [zI_rd, if_neg (by decide)]; exact b3, by rw [zI_rd, if_neg (by decide)]; exact b4, by rw [zI_rd, if_pos ⟨rfl, rfl⟩]; rfl, fun _ => by rw [zI_rd, if_neg (by decide), b5, show min (tE T N s - s) 2 = tE T N s - s by omega]⟩
      · rw [if_neg c2, if_pos rfl, if_neg c2]
        have eE : tE T N s = s + 1 := by unfold tE; rw [if_pos c0, if_neg c1, if_neg c2]
        rw [eE]
        have b2 := by_32 _ b
        have fin : ∀ t : Nat, ∃ S', f3_step_151 (nI t) S2 = some S' ∧ c4 S S' ∧ S'.1 13 4 = nI s ∧ S'.1 13 5 = nI (s + 1) ∧ S'.1 13 6 = nI t := by
          intro t
          unfold f3_step_151
          rw [ltt, ltt, zI_rd, if_neg (by decide), e4, show nI s + 1 = nI (s + 1) from nI_1 _]
          exact ⟨_, rfl, (k1.tr (c4.z (by omega))).tr (c4.z (by omega)), by rw [zI_rd, if_neg (by decide), zI_rd, if_neg (by decide)]; exact e4, by rw [zI_rd, if_pos ⟨rfl, rfl⟩], by rw [zI_rd, if_neg (by decide), zI_rd, if_pos ⟨rfl, rfl⟩]⟩
        by_cases c3 : T s = 59
        · rw [if_pos (b2.2.2.mpr c3), if_pos c3]
          obtain ⟨S', f1, f2, f3, f4, f5⟩ := fin 4
          exact ⟨S', f1, f2, f3, f4, f5, fun z => absurd z (by decide)⟩
        · rw [if_neg (fun z => c3 (b2.2.2.mp z)), if_neg c3]
          obtain ⟨S', f1, f2, f3, f4, f5⟩ := fin 5
          exact ⟨S', f1, f2, f3, f4, f5, fun z => absurd z (by decide)⟩
  · have eE : tE T N s = s := by unfold tE; rw [if_neg c0]
    rw [if_neg c0, ltt, eE]
    unfold kC
    rw [if_neg c0]
    exact ⟨_, rfl, k1.tr (c4.z (by omega)), by rw [zI_rd, if_neg (by decide)]; exact e4, by rw [zI_rd, if_neg (by decide)]; exact e5, by rw [zI_rd, if_pos ⟨rfl, rfl⟩]; rfl, fun z => absurd z (by decide)⟩
end TC
