/-! READING: goods, lands -/
section GL
variable {C M C' M' : Zs} {N m g s : Nat} {T : Nat → Nat}
theorem must1 (h23 : M.1 0 23 = 0) (g2 : f7_next M = some M') : f7_must 1 M = some M' := by
  unfold f7_must f7_must_9
  rw [if_neg i10, h23, if_pos rfl, g2, bd1s]
theorem must0 (h23 : M.1 0 23 = 0) (h : M.1 0 21 = nI s) : ∃ M', f7_must 0 M = some M' ∧ mR M M' ∧ M'.1 0 23 = nI 1 ∧ M'.1 0 24 = nI s ∧ M'.1 0 11 = M.1 0 11 := by
  obtain ⟨M', d1, d2, d3, d4, d5⟩ := p7_bad 1 h23 h
  unfold f7_must f7_must_9
  rw [if_pos rfl, d1, bd1s, if_neg (by rw [d3]; decide)]
  exact ⟨M', rfl, d2, d3, d4, d5⟩
theorem nI1 : nI 1 = (1 : Int32) := rfl
theorem r_good (ht : txt N T) (h : tk C M N T s) (d : drf C M 0 g) : ∃ r C' M', f3_readGood 55 C = some (r, C') ∧ f7_readGood M = some M' ∧ oc C M N T 0 (g + 1) r C' M' := by
  have hN := ht.1
  have h' := h
  obtain ⟨h1, h2, h3, h4, h5, h6, h7, h8, h9, h10, h11, h12⟩ := h
  have d' := d
  obtain ⟨d1, d2, d3, d4, d5, d6, d7, d8, d9⟩ := d
  have kl := kC_le (T := T) (N := N) (s := s)
  have iw := (p7_isWord ht h'.2.2.2.2.2).1
  unfold f3_readGood f7_readGood
  rw [h4, iw, bd1s, ← nI1, iNeq (by omega) (by omega)]
  by_cases c : kC T N s = 1
  · rw [if_pos c] at iw
    rw [if_pos c, if_pos c, if_neg (show ¬ nI 1 = 0 by decide), d2, d4, show (6 : Int32) = nI 6 from rfl, iNlt (by omega) (by omega), iNeq (by omega) (by omega)]
    by_cases c6 : g < 6
    · obtain ⟨C1, M1, s1, g1, g2, g3, g4, g5⟩ := tk_go ht h'
      have dd := drf_4 d' g3 g4
      rw [if_pos c6, if_neg (show ¬ g = 6 by omega), g1, bd1s]
      unfold f7_readGood_24
      rw [iw, bd1s, must1 h12 g2, bd1s]
      rcases num_ok ht g5 (w := 20) (by omega) with ⟨v, v1, v2, v3, e1, e7, M2, n1, n2⟩ | ⟨C2, x, M2, e1, e2, e3, e4, e5, e6⟩
      · have e1' : f3_isNumberUpTo 20 C1 = some (1, C1) := e1
        have n2' : f7_numberTo 20 M1 = some (nI v, M2) := n2
        have q55 := dd.2.1
        rw [e1', bd2s, if_neg i10, q55, if_pos (inb_nI (by omega) (by decide)), nI_clamp (by omega), e7, ltt, ltt]
        have q55' : (zI C1 (55 + 1) g (nI v)).1 55 1 = nI g := by rw [zI_1n _ _ _ (by decide)]; exact q55
        rw [q55', show nI g + nI 1 = nI (g + 1) from nI_1 g]
        obtain ⟨C3, M3, s3, k1, k2, k3, k4, k5⟩ := tk_go ht (tk_fr (C' := zI (zI C1 (55 + 1) g (nI v)) 55 1 (nI (g + 1))) (M' := M1) g5 (by rw [zI_1n _ _ _ (by decide), zI_1n _ _ _ (by decide)]) (by rw [zI_1n _ _ _ (by decide), zI_1n _ _ _ (by decide)]) (fun _ _ _ => rfl) rfl)
        have eM : M3 = M2 := Option.some.inj (k2.symm.trans n1)
        subst eM
        have m11 : M3.1 0 11 = nI g := by rw [k4.2.2 11 (by omega)]; exact dd.2.2.2.1
        have m23 : M3.1 0 23 = 0 := k5.2.2.2.2.2.2.2.2.2.2.2
        have m11' : (zI M3 7 g (nI v)).1 0 11 = nI g := by rw [zI_1n _ _ _ (by decide)]; exact m11
        rw [k1, bd1s, n2', bd2s, m23, if_pos rfl, m11, if_pos (inb_nI (by omega) (by decide)), nI_clamp (by omega), ltt, ltt, m11', nI_1 g]
        unfold f7_readGood_69
        have tk4 : tk C3 (zI (zI M3 7 g (nI v)) 0 11 (nI (g + 1))) N T s3 := tk_fr k5 rfl rfl (fun b b1 b2 => by rw [zI_rd, if_neg (by omega), zI_1n _ _ _ (by decide)]) (by rw [zI_1n _ _ _ (by decide), zI_1n _ _ _ (by decide)])
        have dr4 : drf C3 (zI (zI M3 7 g (nI v)) 0 11 (nI (g + 1))) 0 (g + 1) := by
          refine ⟨?_, ?_, ?_, ?_, by omega, by omega, fun q hq => ?_, fun l hl => by omega, fun l q hl => by omega⟩
          · rw [k3.2.1 55 (by decide), zI_rd, if_neg (by decide), zI_1n _ _ _ (by decide)]; exact dd.1
          · rw [k3.2.1 55 (by decide), zI_rd, if_pos ⟨rfl, rfl⟩]
          · rw [zI_rd, if_neg (by decide), zI_1n _ _ _ (by decide), k4.2.2 10 (by omega)]; exact dd.2.2.1
          · rw [zI_rd, if_pos ⟨rfl, rfl⟩]
          · rw [k3.2.1 56 (by decide), zI_1n _ _ _ (by decide), zI_1n _ _ _ (show 7 ≠ 0 by decide)]
            by_cases cq : q = g
            · exact ⟨v, v1, v2, by rw [zI_rd, if_pos ⟨rfl, cq⟩], by rw [zI_rd, if_pos ⟨rfl, cq⟩]⟩
            · obtain ⟨u, u1, u2, u3, u4⟩ := dd.2.2.2.2.2.2.1 q (by omega)
              exact ⟨u, u1, u2, by rw [zI_rd, if_neg (fun z => cq z.2)]; exact u3, by rw [zI_rd, if_neg (fun z => cq z.2), k4.2.1 7 (by decide)]; exact u4⟩
        obtain ⟨r, C5, M5, o1, o2, o3⟩ := semi ht tk4 dr4
        rw [o1, o2, bd2s, bd1s]
        refine ⟨r, C5, M5, rfl, rfl, o3.pre (((g3.R.tr (cR.z (by omega))).tr (cR.z (by omega))).tr k3.R) (((g4.R.tr k4.R).tr (mR.z (by omega))).tr (mR.z0 (by omega))) ?_⟩
        rw [k3.2.2 2 (by omega), zI_1n _ _ _ (by decide), zI_1n _ _ _ (by decide), g3.2.2 2 (by omega)]
      · have e1' : f3_isNumberUpTo 20 C1 = some (0, C2) := e1
        have e2' : f7_numberTo 20 M1 = some (x, M2) := e2
        obtain ⟨k, p, f1, f2, f3, f4, f5, f6, f7⟩ := e5
        unfold f7_readGood_69
        rw [e1', bd2s, if_pos rfl, e2', bd2s, if_neg (fa_ne f1 f2 f6), fa_end f1 f2 f6, bd1s]
        exact ⟨0, C2, M2, rfl, rfl, g3.R.tr e3, g4.R.tr e4, Or.inr ⟨rfl, k, p, f1, f2, f3, f4, f5, f6, f7⟩⟩
    · obtain ⟨C1, b1, b2, b3, b4⟩ := p3_blame 3 h2
      obtain ⟨M1, e1, e2, e3, e4, e5⟩ := p7_bad 3 h12 h8
      rw [if_neg c6, if_pos (show g = 6 by omega), b1, bd2s, e1, bd1s, fa_good24 (k := 3) (by omega) (by omega) e3]
      exact ⟨0, C1, M1, rfl, rfl, b2, e2, Or.inr ⟨rfl, fl_mk (k := 3) (by omega) (by omega) (by omega) b3 b4 e3 e4⟩⟩
  · rw [if_neg c] at iw
    obtain ⟨C1, b1, b2, b3, b4⟩ := p3_blame (nI 1) h2
    obtain ⟨M1, e1, e2, e3, e4, e5⟩ := must0 h12 h8
    unfold f7_readGood_24 f7_readGood_69
    rw [if_neg c, if_neg c, if_pos rfl, b1, bd2s, iw, bd1s, e1, bd1s, fa_num (k := 1) (by omega) (by omega) e3, bd2s, if_neg (fa_ne (k := 1) (by omega) (by omega) e3), fa_end (k := 1) (by omega) (by omega) e3, bd1s]
    exact ⟨0, C1, M1, rfl, rfl, b2, e2, Or.inr ⟨rfl, fl_mk (k := 1) (by omega) (by omega) (by omega) b3 b4 e3 e4⟩⟩
theorem r_hours (ht : txt N T) {w : Nat} (hw1 : 1 ≤ w) (hw2 : w ≤ 99) (hm : m < 3) : ∀ n j s (C M : Zs), j ≤ g → g - j < n → tk C M N T s → drf C M m g → C.1 57 m = nI w → (∀ q, q < j → ∃ v, 1 ≤ v ∧ v ≤ 20 ∧ C.1 (59 + m) q = nI v ∧ M.1 9 (6 * m + q) = nI v) → ∃ r C' M', f3_readLand_62 55 n (nI j) C = some (r, C') ∧ f7_readLand_43 n (nI w) (nI j) M = some M' ∧ oc C M N T (m + 1) g r C' M' := by
  have hN := ht.1
  intro n
  induction n with
  | zero => intro j s C M _ h; omega
  | succ n ih =>
    intro j s C M hj hn h d h57 hh
    have h' := h
    obtain ⟨h1, h2, h3, h4, h5, h6, h7, h8, h9, h10, h11, h12⟩ := h
    have d' := d
    obtain ⟨d1, d2, d3, d4, d5, d6, d7, d8, d9⟩ := d
    rw [f3_readLand_62, f7_readLand_43]
    dsimp only
    rw [d2, d4]
    by_cases e : g ≤ j
    · have m10' : (zI M 8 m (nI w)).1 0 10 = nI m := by rw [zI_1n _ _ _ (by decide)]; exact d3
      rw [if_pos (nI_le e (by omega)), if_pos (nI_le e (by omega)), ltt, d1, nI_1 m, h12, if_pos rfl, d3, if_pos (inb_nI hm (by decide)), nI_clamp (by omega), ltt, ltt, m10', nI_1 m]
      unfold f7_readLand_113
      have tk4 : tk (zI C 55 0 (nI (m + 1))) (zI (zI M 8 m (nI w)) 0 10 (nI (m + 1))) N T s := tk_fr h' (zI_1n _ _ _ (by decide)) (zI_1n _ _ _ (by decide)) (fun b b1 b2 => by rw [zI_rd, if_neg (by omega), zI_1n _ _ _ (by decide)]) (by rw [zI_1n _ _ _ (by decide), zI_1n _ _ _ (by decide)])
      have dr4 : drf (zI C 55 0 (nI (m + 1))) (zI (zI M 8 m (nI w)) 0 10 (nI (m + 1))) (m + 1) g := by
        refine ⟨by rw [zI_rd, if_pos ⟨rfl, rfl⟩], by rw [zI_rd, if_neg (by decide)]; exact d2, by rw [zI_rd, if_pos ⟨rfl, rfl⟩], by rw [zI_rd, if_neg (by decide), zI_1n _ _ _ (by decide)]; exact d4, by omega, d6, fun q hq => ?_, fun l hl => ?_, fun l q hl hq => ?_⟩
        · rw [zI_1n _ _ _ (by decide), zI_1n _ _ _ (by decide), zI_1n _ _ _ (by decide)]
          exact d7 q hq
        · rw [zI_1n _ _ _ (by decide), zI_1n _ _ _ (show 8 ≠ 0 by decide)]
          by_cases cl : l = m
          · exact ⟨w, hw1, hw2, by rw [cl]; exact h57, by rw [zI_rd, if_pos ⟨rfl, cl⟩]⟩
          · obtain ⟨u, u1, u2, u3, u4⟩ := d8 l (by omega)
            exact ⟨u, u1, u2, u3, by rw [zI_rd, if_neg (fun z => cl z.2)]; exact u4⟩
        · rw [zI_1n _ _ _ (by omega), zI_1n _ _ _ (show 9 ≠ 0 by decide), zI_1n _ _ _ (show 9 ≠ 8 by decide)]
          by_cases cl : l = m
          · rw [cl]; exact hh q (by omega)
          · exact d9 l q (by omega) hq
      obtain ⟨r, C5, M5, o1, o2, o3⟩ := semi ht tk4 dr4
      rw [o1, o2, bd2s, bd1s]
      exact ⟨r, C5, M5, rfl, rfl, o3.pre (cR.z (by omega)) ((mR.z (by omega)).tr (mR.z0 (by omega))) (by rw [zI_1n _ _ _ (by decide)])⟩
    · rw [if_neg (nI_ge (by omega) (by omega)), if_neg (nI_ge (by omega) (by omega))]
      rcases num_ok ht h' (w := 20) (by omega) with ⟨v, v1, v2, v3, e1, e7, M2, n1, n2⟩ | ⟨C2, x, M2, e1, e2, e3, e4, e5, e6⟩
      · have e1' : f3_isNumberUpTo 20 C = some (1, C) := e1
        have n2' : f7_numberTo 20 M = some (nI v, M2) := n2
        rw [e1', bd2s, if_neg i10, d1, if_pos (inb_nI hm (by decide)), if_pos (inb_nI (by omega) (by decide)), nI_clamp (show m < 2 ^ 31 by omega), nI_clamp (show j < 2 ^ 31 by omega), e7, ltt]
        obtain ⟨C3, M3, s3, k1, k2, k3, k4, k5⟩ := tk_go ht (tk_fr (C' := zI C (55 + 4 + m) j (nI v)) (M' := M) h' (zI_1n _ _ _ (by omega)) (zI_1n _ _ _ (by omega)) (fun _ _ _ => rfl) rfl)
        have eM : M3 = M2 := Option.some.inj (k2.symm.trans n1)
        subst eM
        have m10 : M3.1 0 10 = nI m := by rw [k4.2.2 10 (by omega)]; exact d3
        have m23 : M3.1 0 23 = 0 := k5.2.2.2.2.2.2.2.2.2.2.2
        unfold f7_readLand_80
        rw [k1, bd1s, ltt, nI_1 j, n2', bd2s, m23, if_pos rfl, m10, ix6, if_pos (inb_nI (by omega) (by decide)), nI_clamp (by omega), ltt, ltt]
        have tk4 : tk C3 (zI M3 9 (6 * m + j) (nI v)) N T s3 := tk_fr k5 rfl rfl (fun b b1 b2 => by rw [zI_1n _ _ _ (by decide)]) (by rw [zI_1n _ _ _ (by decide)])
        have c3 : ∀ a, a ≠ 13 → a ≠ 59 + m → C3.1 a = C.1 a := fun a a1 a2 => by rw [k3.2.1 a a1, zI_1n _ _ _ (by omega)]
        have c3' : ∀ q, q ≠ j → C3.1 (59 + m) q = C.1 (59 + m) q := fun q hq => by rw [k3.2.1 _ (by omega), zI_rd, if_neg (fun z => hq z.2)]
        have c3'' : C3.1 (59 + m) j = nI v := by rw [k3.2.1 _ (by omega), zI_rd, if_pos ⟨by omega, rfl⟩]
        have dr4 : drf C3 (zI M3 9 (6 * m + j) (nI v)) m g := by
          refine ⟨by rw [c3 55 (by decide) (by omega)]; exact d1, by rw [c3 55 (by decide) (by omega)]; exact d2, by rw [zI_1n _ _ _ (by decide)]; exact m10, by rw [zI_1n _ _ _ (by decide), k4.2.2 11 (by omega)]; exact d4, d5, d6, fun q hq => ?_, fun l hl => ?_, fun l q hl hq => ?_⟩
          · rw [c3 56 (by decide) (by omega), zI_1n _ _ _ (by decide), k4.2.1 7 (by decide)]
            exact d7 q hq
          · rw [c3 57 (by decide) (by omega), zI_1n _ _ _ (by decide), k4.2.1 8 (by decide)]
            exact d8 l hl
          · rw [c3 (59 + l) (by omega) (by omega), zI_rd, if_neg (by omega), k4.2.1 9 (by decide)]
            exact d9 l q hl hq
        obtain ⟨r, C5, M5, o1, o2, o3⟩ := ih (j + 1) s3 C3 (zI M3 9 (6 * m + j) (nI v)) (by omega) (by omega) tk4 dr4 (by rw [c3 57 (by decide) (by omega)]; exact h57) (fun q hq => by
          by_cases cq : q = j
          · rw [cq]
            exact ⟨v, v1, v2, c3'', by rw [zI_rd, if_pos ⟨rfl, rfl⟩]⟩
          · obtain ⟨u, u1, u2, u3, u4⟩ := hh q (by omega)
            exact ⟨u, u1, u2, (c3' q cq).trans u3, by rw [zI_rd, if_neg (by omega), k4.2.1 9 (by decide)]; exact u4⟩)
        rw [o1, o2]
        refine ⟨r, C5, M5, rfl, rfl, o3.pre ((cR.z (by omega)).tr k3.R) (k4.R.tr (mR.z (by omega))) ?_⟩
        rw [k3.2.2 2 (by omega), zI_1n _ _ _ (by omega)]
      · have e1' : f3_isNumberUpTo 20 C = some (0, C2) := e1
        have e2' : f7_numberTo 20 M = some (x, M2) := e2
        obtain ⟨k, p, f1, f2, f3, f4, f5, f6, f7⟩ := e5
        unfold f7_readLand_80
        rw [e1', bd2s, if_pos rfl, e2', bd2s, if_neg (fa_ne f1 f2 f6), ltt, nI_1 j, fa_land43 f1 f2 f6 (e6.trans d4) d6 (nI w) n (j + 1) (by omega) (by omega)]
        exact ⟨0, C2, M2, rfl, rfl, e3, e4, Or.inr ⟨rfl, k, p, f1, f2, f3, f4, f5, f6, f7⟩⟩
/-- no land there: the reference blames -/
theorem m_noland (ht : txt N T) (h : tk C M N T s) (d : drf C M m g) (c : ¬ kC T N s = 2) : ∃ M', f7_readLand M = some M' ∧ mR M M' ∧ M'.1 0 23 = nI 1 ∧ M'.1 0 24 = nI s := by
  have iw := (p7_isWord ht h.2.2.2.2.2).2
  rw [if_neg c] at iw
  obtain ⟨h1, h2, h3, h4, h5, h6, h7, h8, h9, h10, h11, h12⟩ := h
  obtain ⟨M1, e1, e2, e3, e4, e5⟩ := must0 h12 h8
  unfold f7_readLand f7_readLand_23
  rw [iw, bd1s, if_pos rfl, bd1s, e1, bd1s, fa_num (k := 1) (by omega) (by omega) e3, bd2s, show (0 : Int32) = nI 0 from rfl, fa_land43 (k := 1) (by omega) (by omega) e3 (e5.trans d.2.2.2.1) d.2.2.2.2.2.1 (nI 0) fuel0 0 (by omega) (by have := d.2.2.2.2.2.1; unfold fuel0; omega)]
  exact ⟨M1, rfl, e2, e3, e4⟩
theorem r_land (ht : txt N T) (h : tk C M N T s) (d : drf C M m g) : ∃ r C' M', f3_readLand 55 C = some (r, C') ∧ f7_readLand M = some M' ∧ oc C M N T (m + 1) g r C' M' := by
  have hN := ht.1
  by_cases c : kC T N s = 2
  · have iw := (p7_isWord ht h.2.2.2.2.2).2
    rw [if_pos c] at iw
    have h' := h
    obtain ⟨h1, h2, h3, h4, h5, h6, h7, h8, h9, h10, h11, h12⟩ := h
    have d' := d
    obtain ⟨d1, d2, d3, d4, d5, d6, d7, d8, d9⟩ := d
    unfold f3_readLand f7_readLand
    rw [h4, c, if_pos (show nI 2 = (2 : Int32) from rfl), iw, bd1s, if_neg i10, d1, d3, show (3 : Int32) = nI 3 from rfl, iNlt (by omega) (by omega), iNeq (by omega) (by omega)]
    by_cases c3 : m < 3
    · obtain ⟨C1, M1, s1, g1, g2, g3, g4, g5⟩ := tk_go ht h'
      have dd := drf_4 d' g3 g4
      rw [if_pos c3, if_neg (show ¬ m = 3 by omega), g1, bd1s]
      unfold f7_readLand_23
      rw [iw, bd1s, must1 h12 g2, bd1s]
      rcases num_ok ht g5 (w := 99) (by omega) with ⟨v, v1, v2, v3, e1, e7, M2, n1, n2⟩ | ⟨C2, x, M2, e1, e2, e3, e4, e5, e6⟩
      · have e1' : f3_isNumberUpTo 99 C1 = some (1, C1) := e1
        have n2' : f7_numberTo 99 M1 = some (nI v, M2) := n2
        rw [e1', bd2s, if_neg i10, dd.1, if_pos (inb_nI c3 (by decide)), nI_clamp (by omega), e7, ltt]
        obtain ⟨C3, M3, s3, k1, k2, k3, k4, k5⟩ := tk_go ht (tk_fr (C' := zI C1 (55 + 2) m (nI v)) (M' := M1) g5 (zI_1n _ _ _ (by decide)) (zI_1n _ _ _ (by decide)) (fun _ _ _ => rfl) rfl)
        have eM : M3 = M2 := Option.some.inj (k2.symm.trans n1)
        subst eM
        have dr3 : drf C3 M3 m g := by
          obtain ⟨q1, q2, q3, q4, q5, q6, q7, q8, q9⟩ := dd
          refine ⟨by rw [k3.2.1 55 (by decide), zI_1n _ _ _ (by decide)]; exact q1, by rw [k3.2.1 55 (by decide), zI_1n _ _ _ (by decide)]; exact q2, (k4.2.2 10 (by omega)).trans q3, (k4.2.2 11 (by omega)).trans q4, q5, q6, fun q hq => ?_, fun l hl => ?_, fun l q hl hq => ?_⟩
          · rw [k3.2.1 56 (by decide), zI_1n _ _ _ (by decide), k4.2.1 7 (by decide)]
            exact q7 q hq
          · rw [k3.2.1 57 (by decide), zI_rd, if_neg (fun z => by omega), k4.2.1 8 (by decide)]
            exact q8 l hl
          · rw [k3.2.1 (59 + l) (by omega), zI_1n _ _ _ (by omega), k4.2.1 9 (by decide)]
            exact q9 l q hl hq
        obtain ⟨r, C5, M5, o1, o2, o3⟩ := r_hours ht v1 v3 c3 fuel0 0 s3 C3 M3 (by omega) (by unfold fuel0; omega) k5 dr3 (by rw [k3.2.1 57 (by decide), zI_rd, if_pos ⟨rfl, rfl⟩]) (fun q hq => by omega)
        rw [k1, bd1s, n2', bd2s, show (0 : Int32) = nI 0 from rfl, o1, o2]
        refine ⟨r, C5, M5, rfl, rfl, o3.pre ((g3.R.tr (cR.z (by omega))).tr k3.R) (g4.R.tr k4.R) ?_⟩
        rw [k3.2.2 2 (by omega), zI_1n _ _ _ (by decide), g3.2.2 2 (by omega)]
      · have e1' : f3_isNumberUpTo 99 C1 = some (0, C2) := e1
        have e2' : f7_numberTo 99 M1 = some (x, M2) := e2
        obtain ⟨k, p, f1, f2, f3, f4, f5, f6, f7⟩ := e5
        rw [e1', bd2s, if_pos rfl, e2', bd2s, show (0 : Int32) = nI 0 from rfl, fa_land43 f1 f2 f6 (e6.trans dd.2.2.2.1) d6 x fuel0 0 (by omega) (by unfold fuel0; omega)]
        exact ⟨0, C2, M2, rfl, rfl, g3.R.tr e3, g4.R.tr e4, Or.inr ⟨rfl, k, p, f1, f2, f3, f4, f5, f6, f7⟩⟩
    · obtain ⟨C1, b1, b2, b3, b4⟩ := p3_blame (nI 3) h2
      obtain ⟨M1, e1, e2, e3, e4, e5⟩ := p7_bad (nI 3) h12 h8
      rw [if_neg c3, if_pos (show m = 3 by omega), b1, bd2s, e1, bd1s, fa_land23 (k := 3) (by omega) (by omega) e3 (e5.trans d4) d6]
      exact ⟨0, C1, M1, rfl, rfl, b2, e2, Or.inr ⟨rfl, fl_mk (k := 3) (by omega) (by omega) (by omega) b3 b4 e3 e4⟩⟩
  · obtain ⟨M1, e1, e2, e3, e4⟩ := m_noland ht h d c
    obtain ⟨C1, b1, b2, b3, b4⟩ := p3_blame (C := C) 1 h.2.1
    have kl := kC_le (T := T) (N := N) (s := s)
    have hs := h.2.2.2.2.2.1
    unfold f3_readLand
    rw [h.2.2.2.1, if_neg (show ¬ nI (kC T N s) = 2 from fun z => c ((nI_eq (by omega) (by decide)).mp z)), b1, bd2s, e1]
    exact ⟨0, C1, M1, rfl, rfl, b2, e2, Or.inr ⟨rfl, fl_mk (k := 1) (by omega) (by omega) (by omega) b3 b4 e3 e4⟩⟩
end GL
