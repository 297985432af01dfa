/-! ask, count -/
section AL
variable {C M : Zs} {m g : Nat} {A : Nat → Nat → Nat} {H Sh W R : Nat → Nat}
theorem m_share (K : qM M m g A H Sh R) {q : Nat} (hq : q < g) : f7_shareOf (nI q) M = some (nI (Sh q), adM 10 M) := by
  have d2 := K.1.2.1
  have K1 := K.ad 10
  unfold f7_shareOf
  rw [p7_beg K.2.2.2, bd1s, if_pos (inb_nI (by omega) (by decide)), nI_clamp (by omega), K1.2.1.2.2.1 q hq]
theorem m_al14 (K : qM M m g A H Sh R) {q : Nat} (hq : q < g) (h1 : bcn (mkrs m A R q) = 1) {x : Int32} {z : Nat} (hz : (f7_isOf x 4 = 0 ∧ z = 0) ∨ (¬ f7_isOf x 4 = 0 ∧ z = 100)) : f7_aloneMark_14 (nI q) x M = some (nI (q + 10 * mk1 (mkrs m A R q) + z), adM 20 (adM 21 M)) := by
  have K1 := K.ad 21
  have K2 := K1.ad 20
  have e : ∀ t : Nat, f7_aloneMark_55 (nI q) x (nI t) (adM 20 (adM 21 M)) = some (nI (q + 10 * t + z), adM 20 (adM 21 M)) := by
    intro t
    unfold f7_aloneMark_55
    rw [show (10 : Int32) = nI 10 from rfl, pk_mul, nI_add]
    rcases hz with ⟨h1, rfl⟩ | ⟨h1, rfl⟩
    · rw [if_pos h1, show (0 : Int32) = nI 0 from rfl, nI_add]
    · rw [if_neg h1, show (100 : Int32) = nI 100 from rfl, nI_add]
  unfold f7_aloneMark_14
  rw [p7_beg K.2.2.2, bd1s, p7_beg K1.2.2.2, bd1s, p7_makersE K2.1 K2.2.1 K2.2.2.1 hq, bd1s]
  have l8 : mkrs m A R q < 8 := mkrs_lt
  generalize mkrs m A R q = b at *
  unfold mk1
  by_cases c1 : b = 1
  · rw [if_pos c1, if_pos (by rw [c1]; rfl)]
    exact e 0
  · rw [if_neg c1, if_neg (fun k => c1 ((neq1 (by omega)).mp k))]
    by_cases c2 : b = 2
    · rw [if_pos c2, if_pos (by rw [c2]; rfl)]
      exact e 1
    · rw [if_neg c2, if_neg (show ¬ nI b = (2 : Int32) from fun k => c2 ((nI_eq (b := 2) (by omega) (by decide)).mp k))]
      exact e 2
theorem m_al1 (K : qM M m g A H Sh R) {q : Nat} (hq : q < g) (h1 : bcn (mkrs m A R q) = 1) : f7_aloneMark (nI q) 1 M = some (nI (q + 10 * mk1 (mkrs m A R q)), adM 20 (adM 21 M)) := by
  unfold f7_aloneMark
  rw [if_pos (by decide), m_al14 K hq h1 (z := 0) (Or.inl ⟨by decide, rfl⟩)]
  rfl
theorem m_al4 (K : qM M m g A H Sh R) {q : Nat} (hq : q < g) (h1 : bcn (mkrs m A R q) = 1) {x : Int32} (hx : ¬ f7_isOf x 4 = 0) : f7_aloneMark (nI q) x M = some (nI (q + 10 * mk1 (mkrs m A R q) + 100), adM 20 (adM 21 (adM 23 M))) := by
  have K1 := K.ad 23
  unfold f7_aloneMark
  rw [if_neg hx, p7_beg K.2.2.2, bd1s, m_al14 K1 hq h1 (z := 100) (Or.inr ⟨hx, rfl⟩)]
theorem m_com2 (K : qM M m g A H Sh R) {q : Nat} (hq : q < g) : f7_commonSize (nI q) 2 M = some (nI (Sh q * bcn (mkrs m A R q)), adM 10 (adM 12 M)) := by
  have K1 := K.ad 12
  have K2 := K1.ad 10
  unfold f7_commonSize f7_commonSize_11
  rw [if_neg (by decide), p7_beg K.2.2.2, bd1s, m_share K1 hq, bd2s, p7_makersE K2.1 K2.2.1 K2.2.2.1 hq, bd1s, ltt, if_neg (by decide), bc_M _ mkrs_lt, pk_mul]
theorem m_com3 (K : qM M m g A H Sh R) {q : Nat} (hq : q < g) : f7_commonSize (nI q) 3 M = some (nI (Sh q * bcn (mkrs m A R q) - 1), adM 10 (adM 12 (adM 13 M))) := by
  have K1 := K.ad 13
  have K2 := K1.ad 12
  have K3 := K2.ad 10
  have p : 1 ≤ Sh q * bcn (mkrs m A R q) := Nat.mul_pos (K.1.2.2.2.1 q hq).1 (bcn_1 _ mkrs_lt (mkrs_ne K.1.1))
  unfold f7_commonSize f7_commonSize_11
  rw [if_pos rfl, p7_beg K.2.2.2, bd1s, p7_beg K1.2.2.2, bd1s, m_share K2 hq, bd2s, p7_makersE K3.1 K3.2.1 K3.2.2.1 hq, bd1s, ltt, if_pos rfl, bc_M _ mkrs_lt, pk_mul, show (1 : Int32) = nI 1 from rfl, pk_sub p]
theorem m_s1 (K : qM M m g A H Sh R) {q : Nat} (hq : q < g) (h1 : bcn (mkrs m A R q) = 1) : f7_sizeOf (nI q) 1 M = some (nI (Sh q + (q + 10 * mk1 (mkrs m A R q))), adM 20 (adM 21 (adM 10 (adM 11 M)))) := by
  have K1 := K.ad 11
  have K2 := K1.ad 10
  unfold f7_sizeOf f7_sizeOf_26 f7_sizeOf_40 f7_sizeOf_76
  rw [if_pos (by decide), if_neg (by decide), if_pos (by decide), p7_beg K.2.2.2, bd1s, m_share K1 hq, bd2s, m_al1 K2 hq h1, bd2s, ltt, if_pos (by decide), if_neg (by decide), nI_add]
theorem m_s4 (K : qM M m g A H Sh R) {q : Nat} (hq : q < g) (h1 : bcn (mkrs m A R q) = 1) : f7_sizeOf (nI q) 4 M = some (nI ((Sh q + (q + 10 * mk1 (mkrs m A R q) + 100)) * 2), adM 20 (adM 21 (adM 23 (adM 10 (adM 11 (adM 14 M)))))) := by
  have K0 := K.ad 14
  have K1 := K0.ad 11
  have K2 := K1.ad 10
  unfold f7_sizeOf f7_sizeOf_26 f7_sizeOf_40 f7_sizeOf_76
  rw [if_pos (by decide), if_neg (by decide), if_neg (by decide), p7_beg K.2.2.2, bd1s, p7_beg K0.2.2.2, bd1s, m_share K1 hq, bd2s, m_al4 K2 hq h1 (by decide), bd2s, ltt, if_neg (by decide), if_neg (by decide), nI_add, show (2 : Int32) = nI 2 from rfl, pk_mul, Nat.mul_comm]
theorem m_s5 (K : qM M m g A H Sh R) {q : Nat} (hq : q < g) (h1 : bcn (mkrs m A R q) = 1) : f7_sizeOf (nI q) 5 M = some (nI ((Sh q + (q + 10 * mk1 (mkrs m A R q) + 100)) * 2 - (q + 10 * mk1 (mkrs m A R q) + 100)), adM 20 (adM 21 (adM 23 (adM 20 (adM 21 (adM 23 (adM 10 (adM 11 (adM 14 (adM 15 M)))))))))) := by
  have K' := K.ad 15
  have K0 := K'.ad 14
  have K1 := K0.ad 11
  have K2 := K1.ad 10
  have K3 := ((K2.ad 23).ad 21).ad 20
  unfold f7_sizeOf f7_sizeOf_26 f7_sizeOf_40 f7_sizeOf_76
  rw [if_pos (by decide), if_pos rfl, p7_beg K.2.2.2, bd1s, if_neg (by decide), p7_beg K'.2.2.2, bd1s, p7_beg K0.2.2.2, bd1s, m_share K1 hq, bd2s, m_al4 K2 hq h1 (by decide), bd2s, ltt, if_neg (by decide), if_pos rfl, m_al4 K3 hq h1 (by decide), bd2s, nI_add, show (2 : Int32) = nI 2 from rfl, pk_mul, Nat.mul_comm, pk_sub (by omega)]
theorem m_s2 (K : qM M m g A H Sh R) {q : Nat} (hq : q < g) : f7_sizeOf (nI q) 2 M = some (nI (Sh q * bcn (mkrs m A R q)), adM 10 (adM 12 M)) := by
  unfold f7_sizeOf
  rw [if_neg (by decide), m_com2 K hq, bd2s]
theorem m_s3 (K : qM M m g A H Sh R) {q : Nat} (hq : q < g) : f7_sizeOf (nI q) 3 M = some (nI (Sh q * bcn (mkrs m A R q) - 1), adM 10 (adM 12 (adM 13 M))) := by
  unfold f7_sizeOf
  rw [if_neg (by decide), m_com3 K hq, bd2s]
theorem m_m1 (K : qM M m g A H Sh R) {q : Nat} (hq : q < g) (h1 : bcn (mkrs m A R q) = 1) : f7_markOf (nI q) 1 M = some (nI (q + 10 * mk1 (mkrs m A R q)), adM 20 (adM 21 M)) := by
  unfold f7_markOf
  rw [if_pos (by decide), m_al1 K hq h1, bd2s]
theorem m_m4 (K : qM M m g A H Sh R) {q : Nat} (hq : q < g) (h1 : bcn (mkrs m A R q) = 1) {x : Int32} (hx : ¬ f7_isOf x 4 = 0) (hx2 : f7_isOf x 2 = 0) : f7_markOf (nI q) x M = some (nI (q + 10 * mk1 (mkrs m A R q) + 100), adM 20 (adM 21 (adM 23 M))) := by
  unfold f7_markOf
  rw [if_pos hx2, m_al4 K hq h1 hx, bd2s]
theorem m_m2 (K : qM M m g A H Sh R) {q : Nat} : f7_markOf (nI q) 2 M = some (nI q, adM 20 M) := by
  unfold f7_markOf f7_markOf_26
  rw [if_neg (by decide), if_neg (by decide), p7_beg K.2.2.2, bd1s, if_neg (by decide)]
theorem m_m3 (K : qM M m g A H Sh R) {q : Nat} (hq : q < g) : f7_markOf (nI q) 3 M = some (nI (q + (Sh q * bcn (mkrs m A R q) - 1)), adM 10 (adM 12 (adM 13 (adM 20 (adM 22 M))))) := by
  have K1 := K.ad 22
  have K2 := K1.ad 20
  unfold f7_markOf f7_markOf_26
  rw [if_neg (by decide), if_pos rfl, p7_beg K.2.2.2, bd1s, p7_beg K1.2.2.2, bd1s, if_pos rfl, m_com3 K2 hq, bd2s, nI_add]
theorem ask_end {x y : Option (Int64 × Zs)} {r : Int64} {C' M' : Zs} (h1 : x = some (r, C')) (h2 : y = some (r, M')) (h : II C' M') : ∃ (r : Int64) (C' M' : Zs), x = some (r, C') ∧ y = some (r, M') ∧ II C' M' := ⟨r, C', M', h1, h2, h⟩
theorem s_ask (h : II C M) (x1 x2 : Int32) : ∃ (r : Int64) (C' M' : Zs), (f6_ask x1 x2 C = some (r, C')) ∧ (f7_ask x1 x2 M = some (r, M')) ∧ II C' M' := by
  have h2 := II_t0 h
  unfold f7_ask f6_ask
  rw [ltt]
  generalize zI M 0 0 0 = M2 at h2 ⊢
  rcases h2.2.2.1 with v | ⟨m, g, A, H, Sh, W, v⟩
  · obtain ⟨e1, e2⟩ := gN_good v x1
    rw [e1, e2, if_pos rfl, if_pos rfl]
    exact ⟨_, C, M2, rfl, rfl, h2⟩
  rcases gV_good v x1 with ⟨e1, e2⟩ | ⟨q, hq, rfl, e1, e2⟩
  · rw [e1, e2, if_pos rfl, if_pos rfl]
    exact ⟨_, C, M2, rfl, rfl, h2⟩
  rw [e1, e2, if_neg i10, if_neg i10, show (1 : Int64) = (1 : Int32).toInt64 from rfl, rng_in]
  by_cases c0 : x2 < 0
  · rw [if_pos c0, if_pos c0, if_pos rfl]
    exact ⟨_, C, M2, rfl, rfl, h2⟩
  rw [if_neg c0, if_neg c0]
  rcases Classical.em (¬ (x2 ≤ 1)) with c1 | c1'
  · rw [if_neg c1, if_neg c1, if_pos rfl]
    exact ⟨_, C, M2, rfl, rfl, h2⟩
  have c1 := Classical.not_not.mp c1'
  rw [if_pos c1, if_pos c1, if_neg i10, ltt]
  unfold f4_empty
  rw [ltt, bd1s]
  have h3 := II_te h2
  have v3 := iV_te v
  generalize zI C 15 1 0 = C1 at h3 v3 ⊢
  obtain ⟨M', R, a1, a2, a3, a4, a5, a6⟩ := p7_kindOf h3 v3 hq
  rw [a1, bd2s]
  obtain ⟨n, n1, n2, n3, -⟩ := a2.2.2.2.1
  have D := v.1
  have d1 := D.1
  have d2 := D.2.1
  have KC : qC C1 m g A H Sh W := ⟨D, v3.2.1, v3.2.2.1, n, n1, n2⟩
  have KM : qM M' m g A H Sh R := ⟨D, a3.2.2.2.2.1, a4, n, n1, n3⟩
  have em : mkrs m A W q = mkrs m A R q := mkrs_rest D v3.2.2.2.1 a6 q
  have l8 : mkrs m A R q < 8 := mkrs_lt
  have n0 : mkrs m A R q ≠ 0 := mkrs_ne d1
  have hb := bcn_le (mkrs m A R q)
  have hS := (D.2.2.2.1 q hq).2
  have hm1 : mk1 (mkrs m A R q) ≤ 2 := by unfold mk1; split; omega; split <;> omega
  have bS : Sh q * bcn (mkrs m A R q) ≤ 20 * 3 := Nat.mul_le_mul hS hb
  generalize ek : kdB (mkrs m A W q) m (dr m A W q) = k at *
  have ck := kd_cases (b := mkrs m A W q) (m := m) (d := dr m A W q) mkrs_lt (mkrs_ne d1)
  rw [ek] at ck
  have cs : ∀ kb, f6_sizeOf kb (nI q) 0 C1 = kb (zSizes.getD k 0) (nI q) (nI 1) C1 := fun kb => by
    have k5 : k ≤ 5 := by omega
    exact c_size (d := 0) KC hq ek k5 kb
  have cm : ∀ kb, f6_markOf kb (nI q) 0 C1 = kb (zMarks.getD k 0) (nI q) (nI 1) C1 := fun kb => by
    have k5 : k ≤ 5 := by omega
    exact c_mark (d := 0) KC hq ek k5 kb
  by_cases c2 : x2 = 0
  · rw [if_pos c2, if_pos c2, cs]
    rcases ck with ⟨rfl, o⟩ | ⟨rfl, o⟩ | ⟨rfl, o⟩ | rfl | rfl
    · have t := b_11 KC hq ek (by decide) (n := 9) (d := 1) (by decide) (by decide) (b_21 ((KC.ad 11).ad 10) hq o (by decide) (by decide))
      rw [em] at t o
      rw [show zSizes.getD 1 0 = 11 from rfl, t, bd2s, show nI 1 = 1 from rfl, m_s1 KM hq o, bd2s, nI_l (by omega)]
      exact ⟨_, _, _, rfl, rfl, II_ad (II_ad (II_ad (II_ad a2 _) _) _) _⟩
    · have t := b_14 KC (n := 9) (d := 1) (by decide) (b_11 (KC.ad 14) hq ek (by decide) (n := 8) (d := 2) (by decide) (by decide) (b_23 (((KC.ad 14).ad 11).ad 10) hq o (by decide) (by decide)))
      rw [em] at t o
      rw [show zSizes.getD 4 0 = 14 from rfl, t, bd2s, show nI 4 = 4 from rfl, m_s4 KM hq o, bd2s, nI_l (by omega)]
      exact ⟨_, _, _, rfl, rfl, II_ad (II_ad (II_ad (II_ad (II_ad (II_ad a2 _) _) _) _) _) _⟩
    · have t := b_15 KC hq ek (by decide) (n := 9) (d := 1) (by decide) (b_14 (KC.ad 15) (n := 8) (d := 2) (by decide) (b_11 ((KC.ad 15).ad 14) hq ek (by decide) (n := 7) (d := 3) (by decide) (by decide) (b_23 ((((KC.ad 15).ad 14).ad 11).ad 10) hq o (by decide) (by decide)))) (((((((KC.ad 15).ad 14).ad 11).ad 10).ad 23).ad 21).ad 20) (b_23 (((((((KC.ad 15).ad 14).ad 11).ad 10).ad 23).ad 21).ad 20) hq o (by decide) (by decide)) (by omega)
      rw [em] at t o
      rw [show zSizes.getD 5 0 = 15 from rfl, t, bd2s, show nI 5 = 5 from rfl, m_s5 KM hq o, bd2s, nI_l (by omega)]
      exact ⟨_, _, _, rfl, rfl, II_ad (II_ad (II_ad (II_ad (II_ad (II_ad (II_ad (II_ad (II_ad (II_ad a2 _) _) _) _) _) _) _) _) _) _⟩
    · have t := b_12 KC hq (n := 10) (d := 1) (by decide) (by decide)
      rw [em] at t
      rw [show zSizes.getD 2 0 = 12 from rfl, t, bd2s, show nI 2 = 2 from rfl, m_s2 KM hq, bd2s, nI_l (by omega)]
      exact ⟨_, _, _, rfl, rfl, II_ad (II_ad a2 _) _⟩
    · have t := b_13 KC hq (n := 10) (d := 1) (by decide) (by decide)
      rw [em] at t
      rw [show zSizes.getD 3 0 = 13 from rfl, t, bd2s, show nI 3 = 3 from rfl, m_s3 KM hq, bd2s, nI_l (by omega)]
      exact ⟨_, _, _, rfl, rfl, II_ad (II_ad (II_ad a2 _) _) _⟩
  · rw [if_neg c2, if_neg c2, cm]
    rcases ck with ⟨rfl, o⟩ | ⟨rfl, o⟩ | ⟨rfl, o⟩ | rfl | rfl
    · have t := b_21 KC hq o (n := 10) (d := 1) (by decide) (by decide)
      rw [em] at t o
      rw [show zMarks.getD 1 0 = 21 from rfl, t, bd2s, show nI 1 = 1 from rfl, m_m1 KM hq o, bd2s, nI_l (by omega)]
      exact ⟨_, _, _, rfl, rfl, II_ad (II_ad a2 _) _⟩
    · have t := b_23 KC hq o (n := 10) (d := 1) (by decide) (by decide)
      rw [em] at t o
      rw [show zMarks.getD 4 0 = 23 from rfl, t, bd2s, m_m4 KM hq o (by decide) (by decide), bd2s, nI_l (by omega)]
      exact ⟨_, _, _, rfl, rfl, II_ad (II_ad (II_ad a2 _) _) _⟩
    · have t := b_23 KC hq o (n := 10) (d := 1) (by decide) (by decide)
      rw [em] at t o
      rw [show zMarks.getD 5 0 = 23 from rfl, t, bd2s, m_m4 KM hq o (by decide) (by decide), bd2s, nI_l (by omega)]
      exact ⟨_, _, _, rfl, rfl, II_ad (II_ad (II_ad a2 _) _) _⟩
    · have t := b_20 KC hq (n := 10) (d := 1) (by decide) (by decide)
      rw [show zMarks.getD 2 0 = 20 from rfl, t, bd2s, show nI 2 = 2 from rfl, m_m2 KM, bd2s, nI_l (by omega)]
      exact ⟨_, _, _, rfl, rfl, II_ad a2 _⟩
    · have t := b_22 KC hq ek (n := 10) (d := 1) (by decide) (by decide)
      rw [em] at t
      rw [show zMarks.getD 3 0 = 22 from rfl, t, bd2s, show nI 3 = 3 from rfl, m_m3 KM hq, bd2s, nI_l (by omega)]
      exact ⟨_, _, _, rfl, rfl, II_ad (II_ad (II_ad (II_ad (II_ad a2 _) _) _) _) _⟩
theorem cnt_rows (h : iR C M) : ∀ n r (x : Int32), r ≤ 8 → 8 - r < n → ∃ y, f2_present_4 C n x (nI r) = some y ∧ f7_count_50 n x (nI r) M = some (y.toInt64, M) := by
  intro n
  induction n with
  | zero => intro r x _ h; omega
  | succ n ih =>
    intro r x hr hn
    unfold f2_present_4 f7_count_50
    by_cases e : 8 ≤ r
    · rw [if_pos (show (8 : Int32) ≤ nI r from nI_le (a := 8) e (by omega)), if_pos (show (8 : Int32) ≤ nI r from nI_le (a := 8) e (by omega))]
      exact ⟨x, rfl, rfl⟩
    · rw [if_neg (show ¬ (8 : Int32) ≤ nI r from nI_ge (b := 8) (by omega) (by decide)), if_neg (show ¬ (8 : Int32) ≤ nI r from nI_ge (b := 8) (by omega) (by decide)), if_pos (inb_nI (by omega) (by decide)), if_pos (inb_nI (by omega) (by decide)), nI_clamp (by omega)]
      unfold f2_present_23 f7_count_71
      rcases h r (by omega) with ⟨y1, y2⟩ | ⟨k, l, y1, y2, y3, y4, y5, y6, y7⟩
      · rw [y1, y2, if_pos rfl, if_pos (by decide), ltt, ltt, ltt, show nI r + 1 = nI (r + 1) from nI_1 _, Int32.add_zero]
        exact ih (r + 1) x (by omega) (by omega)
      · rw [y3, y6, if_neg (nI_m1 (by omega)), if_neg (nI_pos (by omega)), ltt, ltt, ltt, ltt, show nI r + 1 = nI (r + 1) from nI_1 _]
        exact ih (r + 1) (x + 1) (by omega) (by omega)
theorem cnt_hands (v : iV C M m g A H Sh W) : ∀ n l (x : Int32), l ≤ m → m - l < n → ∃ y, f5_allHands_4 37 C n x (nI l) = some y ∧ f7_count_96 n x (nI l) M = some (y.toInt64, M) := by
  obtain ⟨D, c37, g44, rW, mw, mk, ih⟩ := v
  have d1 := D.1
  intro n
  induction n with
  | zero => intro r x _ h; omega
  | succ n ih =>
    intro l x hl hn
    unfold f5_allHands_4 f7_count_96
    rw [c37.1, mw.1]
    by_cases e : m ≤ l
    · rw [if_pos (nI_le e (by omega)), if_pos (nI_le e (by omega))]
      exact ⟨x, rfl, rfl⟩
    · rw [if_neg (nI_ge (by omega) (by omega)), if_neg (nI_ge (by omega) (by omega)), if_pos (inb_nI (by omega) (by decide)), if_pos (inb_nI (by omega) (by decide)), nI_clamp (by omega), c37.2.2.2.1 l (by omega), mw.2.2.2.1 l (by omega), ltt, ltt, ltt, ltt, show nI l + 1 = nI (l + 1) from nI_1 _]
      exact ih (l + 1) _ (by omega) (by omega)
theorem cnt_com (v : iV C M m g A H Sh W) (G : cG M 11 3 R) (hR : restN m g A H Sh R) : ∀ n q (x : Int32), q ≤ g → g - q < n → ∃ y, f6_commonGoods_4 C n x (nI q) = some y ∧ f7_count_135 n x (nI q) M = some (y, M) := by
  obtain ⟨D, c37, g44, rW, mw, mk, ih⟩ := v
  have d1 := D.1
  have d2 := D.2.1
  intro n
  induction n with
  | zero => intro r x _ h; omega
  | succ n ih =>
    intro q x hq hn
    unfold f6_commonGoods_4 f7_count_135
    rw [c37.2.1, mw.2.1]
    by_cases e : g ≤ q
    · rw [if_pos (nI_le e (by omega)), if_pos (nI_le e (by omega))]
      exact ⟨_, rfl, rfl⟩
    · rw [if_neg (nI_ge (by omega) (by omega)), if_neg (nI_ge (by omega) (by omega)), show (2 : Int32) = nI 2 from rfl, p6_isOfKind D c37 g44 (by omega) (by decide), bd1s, p7_makersE D mw G (by omega), bd1s, bc_M _ mkrs_lt, mkrs_rest D rW hR]
      have hb := bcn_le (mkrs m A R q)
      unfold f6_commonGoods_27 f7_count_165
      show ∃ y, (if (if bcn (mkrs m A R q) ≤ 1 then (0 : Int32) else 1) = 0 then _ else _) = some y ∧ _
      by_cases c : bcn (mkrs m A R q) ≤ 1
      · have cc := (nle1 (by omega)).mpr c
        rw [if_pos (by rw [if_pos c]), if_pos cc, ltt, ltt, ltt, show nI q + 1 = nI (q + 1) from nI_1 _, Int32.add_zero]
        exact ih (q + 1) x (by omega) (by omega)
      · have cc := fun k => c ((nle1 (by omega)).mp k)
        rw [if_neg (by rw [if_neg c]; exact i10), if_neg cc, ltt, ltt, ltt, ltt, show nI q + 1 = nI (q + 1) from nI_1 _]
        exact ih (q + 1) (x + 1) (by omega) (by omega)
theorem s_count (h : II C M) (x1 : Int32) : ∃ (r : Int64) (C' M' : Zs), (f6_count C x1 = some r ∧ C' = C) ∧ (f7_count x1 M = some (r, M')) ∧ II C' M' := by
  have h2 := II_t0 h
  unfold f7_count f6_count
  rw [ltt]
  generalize zI M 0 0 0 = M2 at h2 ⊢
  by_cases c0 : x1 = 0
  · rw [if_pos c0, if_pos c0]
    obtain ⟨y, e1, e2⟩ := cnt_rows h2.1 fuel0 0 0 (by decide) (by decide)
    unfold f2_present
    rw [show f2_present_4 C fuel0 0 0 = some y from e1, bd1s, show f7_count_50 fuel0 0 0 M2 = some (y.toInt64, M2) from e2]
    exact ⟨_, C, M2, ⟨rfl, rfl⟩, rfl, h2⟩
  rw [if_neg c0, if_neg c0]
  have hl : C.1 37 0 = M2.1 0 5 ∧ C.1 37 1 = M2.1 0 6 := by
    rcases h2.2.2.1 with v | ⟨m, g, A, H, Sh, W, v⟩
    · exact ⟨v.1.trans v.2.2.1.symm, v.2.1.trans v.2.2.2.1.symm⟩
    · exact ⟨v.2.1.1.trans v.2.2.2.2.1.1.symm, v.2.1.2.1.trans v.2.2.2.2.1.2.1.symm⟩
  by_cases c1 : x1 = 1
  · rw [if_pos c1, if_pos c1, hl.1]
    exact ⟨_, C, M2, ⟨rfl, rfl⟩, rfl, h2⟩
  rw [if_neg c1, if_neg c1]
  by_cases c2 : x1 = 2
  · rw [if_pos c2, if_pos c2, hl.2]
    exact ⟨_, C, M2, ⟨rfl, rfl⟩, rfl, h2⟩
  rw [if_neg c2, if_neg c2]
  by_cases c3 : x1 = 3
  · rw [if_pos c3, if_pos c3]
    unfold f5_allHands
    rcases h2.2.2.1 with v | ⟨m, g, A, H, Sh, W, v⟩
    · rw [show fuel0 = 999 + 1 from rfl]
      unfold f5_allHands_4 f7_count_96
      rw [v.1, v.2.2.1, if_pos (by decide), if_pos (by decide), bd1s]
      exact ⟨_, C, M2, ⟨rfl, rfl⟩, rfl, h2⟩
    · obtain ⟨y, e1, e2⟩ := cnt_hands v fuel0 0 0 (by omega) (by have := v.1.1; unfold fuel0; omega)
      rw [show f5_allHands_4 37 C fuel0 0 0 = some y from e1, bd1s, show f7_count_96 fuel0 0 0 M2 = some (y.toInt64, M2) from e2]
      exact ⟨_, C, M2, ⟨rfl, rfl⟩, rfl, h2⟩
  rw [if_neg c3, if_neg c3]
  by_cases c4 : x1 = 4
  · rw [if_pos c4, if_pos c4]
    unfold f6_commonGoods
    rcases h2.2.2.1 with v | ⟨m, g, A, H, Sh, W, v⟩
    · rw [v.2.2.1, if_pos (by decide)]
      unfold f7_count_133
      rw [show fuel0 = 999 + 1 from rfl]
      unfold f6_commonGoods_4 f7_count_135
      rw [v.2.1, v.2.2.2.1, if_pos (by decide), if_pos (by decide), bd1s]
      exact ⟨_, C, M2, ⟨rfl, rfl⟩, rfl, h2⟩
    · obtain ⟨M', R, a1, a2, a3, a4, a5, a6, a7⟩ := II_two h2 v
      have d1 := v.1.1
      have d2 := v.1.2.1
      rw [v.2.2.2.2.1.1, if_neg (nI_nle (by omega) (by omega)), a1, bd1s]
      unfold f7_count_133
      obtain ⟨y, e1, e2⟩ := cnt_com a3 a5 a7 fuel0 0 0 (by omega) (by unfold fuel0; omega)
      rw [show f6_commonGoods_4 C fuel0 0 0 = some y from e1, bd1s, show f7_count_135 fuel0 0 0 M' = some (y, M') from e2]
      exact ⟨_, C, M', ⟨rfl, rfl⟩, rfl, a2⟩
  rw [if_neg c4, if_neg c4]
  by_cases c5 : x1 = 5
  · rw [if_pos c5, if_pos c5]
    obtain ⟨n, t1, t2, t3, t4, t5⟩ := h2.2.1
    rw [t2, t3]
    exact ⟨_, C, M2, ⟨rfl, rfl⟩, rfl, h2⟩
  rw [if_neg c5, if_neg c5]
  exact ⟨_, C, M2, ⟨rfl, rfl⟩, rfl, h2⟩
end AL
