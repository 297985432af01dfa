/-! the reference's rest, restAll; fractions -/
section MR
variable {S : Zs} {m g : Nat} {A : Nat → Nat → Nat} {H Sh W : Nat → Nat}
theorem p7_rest7 (D : dat 3 g A H Sh) (C : mW S 3 g A H Sh) (h : restN 3 g A H Sh W) : ∃ S' R, f7_rest (nI 7) S = some S' ∧ mfr S S' ∧ cG S' 11 3 R ∧ gd 3 g A H Sh 7 R := by
  obtain ⟨r1, S1, a1, a2, a3⟩ := p7_isPartBound D C (a := 0) (b := 1) (c := 2) (by unfold cyc; omega)
  unfold f7_rest
  rw [if_pos (show nI 7 = (7 : Int32) from rfl)]
  rw [show f7_isPartBound 0 1 2 S = some (r1, S1) from a1, bd2s]
  rcases a3 with ⟨er, R, G, k⟩ | ⟨er, n1⟩
  · rw [er, if_neg (by decide)]
    exact ⟨S1, R, rfl, a2, G, k⟩
  rw [er, if_pos rfl]
  obtain ⟨r2, S2, b1, b2, b3⟩ := p7_isPartBound D (mW_fr C a2) (a := 1) (b := 2) (c := 0) (by unfold cyc; omega)
  rw [show f7_isPartBound 1 2 0 S1 = some (r2, S2) from b1, bd2s]
  rcases b3 with ⟨er, R, G, k⟩ | ⟨er, n2⟩
  · rw [er, if_neg (by decide)]
    exact ⟨S2, R, rfl, a2.tr b2, G, k⟩
  rw [er, if_pos rfl]
  obtain ⟨r3, S3, c1, c2, c3⟩ := p7_isPartBound D (mW_fr C (a2.tr b2)) (a := 2) (b := 0) (c := 1) (by unfold cyc; omega)
  rw [show f7_isPartBound 2 0 1 S2 = some (r3, S3) from c1, bd2s]
  rcases c3 with ⟨er, R, G, k⟩ | ⟨er, n3⟩
  · rw [er, if_neg (by decide)]
    exact ⟨S3, R, rfl, (a2.tr b2).tr c2, G, k⟩
  rw [er, if_pos rfl]
  obtain ⟨r4, S4, d1, d2, d3⟩ := p7_isParted3 D (mW_fr C ((a2.tr b2).tr c2))
  rw [show f7_isParted 7 0 1 2 S3 = some (r4, S4) from d1, bd2s]
  rcases d3 with ⟨er, R, G, k⟩ | ⟨er, n4⟩
  · rw [er, if_neg (by decide)]
    exact ⟨S4, R, rfl, ((a2.tr b2).tr c2).tr d2, G, k⟩
  exfalso
  rcases c_all D h with ⟨a, b, c, habc, j, hj, hh⟩ | ⟨w, h1, h2⟩
  · rcases hh with ⟨s, s1, s2, s3⟩ | ⟨q, q1, q2⟩
    · rcases habc with ⟨rfl, rfl, rfl⟩ | ⟨rfl, rfl, rfl⟩ | ⟨rfl, rfl, rfl⟩
      · exact n1 _ ⟨j, hj, Or.inl ⟨s, s1, s2, rfl⟩⟩ s3
      · exact n2 _ ⟨j, hj, Or.inl ⟨s, s1, s2, rfl⟩⟩ s3
      · exact n3 _ ⟨j, hj, Or.inl ⟨s, s1, s2, rfl⟩⟩ s3
    · rcases habc with ⟨rfl, rfl, rfl⟩ | ⟨rfl, rfl, rfl⟩ | ⟨rfl, rfl, rfl⟩
      · exact n1 _ ⟨j, hj, Or.inr ⟨q, q1, rfl⟩⟩ q2
      · exact n2 _ ⟨j, hj, Or.inr ⟨q, q1, rfl⟩⟩ q2
      · exact n3 _ ⟨j, hj, Or.inr ⟨q, q1, rfl⟩⟩ q2
  · exact n4 _ ⟨w, h1, rfl⟩ h2
/-- with two lands one of the rows is at rest -/
theorem c_two (D : dat m g A H Sh) {a b c : Nat} (y : cyc a b c) (w : two m a b) {w1 w2 : Nat} (h : prest g (fun q => A a q) (fun q => A b q) Sh (H a) (H b) w1 w2) : (∃ q, q < g ∧ gd m g A H Sh (2 ^ a + 2 ^ b) (rw3 a b (A b q) (A a q) 1)) ∨ ∃ z, z < 2 ^ g ∧ gd m g A H Sh (2 ^ a + 2 ^ b) (rP2 g H Sh a b z) := by
  have yy := y
  obtain ⟨y1, y2, y3, y4, y5, y6⟩ := y
  have ww := w
  obtain ⟨v1, v2, v3⟩ := w
  by_cases t : ∃ q, q < g ∧ A a q * w1 = A b q * w2
  · obtain ⟨q, hq, e⟩ := t
    have ba := D.2.2.2.2 a q (by omega) hq
    have bb := D.2.2.2.2 b q v3 hq
    refine Or.inl ⟨q, hq, (gd_two ww).mpr ⟨fun l hl => ?_, ?_⟩⟩
    · rcases yy.is hl with rfl | rfl | rfl
      · rw [rw3_a]; exact bb.1
      · rw [rw3_b y4]; exact ba.1
      · rw [rw3_c y5 y6]; exact Nat.le_refl _
    · rw [rw3_a, rw3_b y4]
      exact prest_of h bb.1 ba.1 (by rw [e])
  · right
    obtain ⟨z, z1, z2⟩ := dg_ex (β := 2) (by omega) (fun q => if A a q * w1 ≤ A b q * w2 then 0 else 1) g (fun q _ => by split <;> omega)
    have P0 : pt 2 z Sh 0 g = ns g (fun q => if A a q * w1 ≤ A b q * w2 then Sh q else 0) := ns_congr (fun q hq => by
      rw [z2 q hq]
      by_cases c : A a q * w1 ≤ A b q * w2
      · rw [if_pos c, if_pos c, if_pos rfl]
      · rw [if_neg c, if_neg c, if_neg (by omega)])
    have P1 : pt 2 z Sh 1 g = ns g (fun q => if A b q * w2 ≤ A a q * w1 then Sh q else 0) := ns_congr (fun q hq => by
      have nt : A a q * w1 ≠ A b q * w2 := fun e => t ⟨q, hq, e⟩
      rw [z2 q hq]
      by_cases c : A a q * w1 ≤ A b q * w2
      · rw [if_pos c, if_neg (by omega), if_neg (by omega)]
      · rw [if_neg c, if_pos rfl, if_pos (by omega)])
    have Ps : pt 2 z Sh 0 g + pt 2 z Sh 1 g = ns g Sh := by
      unfold pt
      rw [← ns_add]
      refine ns_congr (fun q hq => ?_)
      have : dg 2 z q < 2 := Nat.mod_lt _ (by omega)
      by_cases c : dg 2 z q = 0
      · rw [if_pos c, if_neg (by omega)]; rfl
      · rw [if_neg c, if_pos (by omega)]; omega
    obtain ⟨h1, h2, h3, h4⟩ := h
    have h := (⟨h1, h2, h3, h4⟩ : prest g (fun q => A a q) (fun q => A b q) Sh (H a) (H b) w1 w2)
    rw [← P0] at h3
    rw [← P1] at h4
    have ha := (D.2.2.1 a (by omega)).1
    have hb := (D.2.2.1 b v3).1
    have xa : 1 ≤ H a * w1 := Nat.mul_pos ha h1
    have xb : 1 ≤ H b * w2 := Nat.mul_pos hb h2
    have sp : 1 ≤ ns g Sh := by
      have g1 := D.2.1.1
      have : ns g (fun _ => 1) ≤ ns g Sh := ns_mono (fun q hq => (D.2.2.2.1 q hq).1)
      have k : ∀ n, ns n (fun _ => 1) = n := by
        intro n
        induction n with
        | zero => rfl
        | succ n ih => show ns n (fun _ => 1) + 1 = n + 1; rw [ih]
      rw [k] at this
      omega
    have p0 : 1 ≤ pt 2 z Sh 0 g := by
      by_cases c : pt 2 z Sh 0 g = 0
      · rw [c, Nat.mul_zero] at h3
        have := Nat.mul_pos xa sp
        omega
      · omega
    have p1 : 1 ≤ pt 2 z Sh 1 g := by
      by_cases c : pt 2 z Sh 1 g = 0
      · rw [c, Nat.mul_zero] at h4
        have := Nat.mul_pos xb sp
        omega
      · omega
    rw [← Ps] at h3 h4
    have e1 : H a * w1 * pt 2 z Sh 1 g = H b * w2 * pt 2 z Sh 0 g := by
      generalize pt 2 z Sh 0 g = X at *
      generalize pt 2 z Sh 1 g = Y at *
      generalize H a * w1 = U at *
      generalize H b * w2 = V at *
      apply Nat.le_antisymm <;> grind
    refine ⟨z, z1, (gd_two ww).mpr ⟨fun l hl => ?_, ?_⟩⟩
    · unfold rP2
      rw [Nat.mul_div_cancel _ hb, Nat.mul_comm (H a), Nat.mul_div_cancel _ ha]
      rcases yy.is hl with rfl | rfl | rfl
      · rw [rw3_a]; exact Nat.mul_pos p0 hb
      · rw [rw3_b y4]; exact Nat.mul_pos p1 ha
      · rw [rw3_c y5 y6]; exact Nat.le_refl _
    · unfold rP2
      rw [Nat.mul_div_cancel _ hb, Nat.mul_comm (H a), Nat.mul_div_cancel _ ha, rw3_a, rw3_b y4]
      refine prest_of h (Nat.mul_pos p0 hb) (Nat.mul_pos p1 ha) ?_
      grind
theorem p7_rest2 (D : dat m g A H Sh) (C : mW S m g A H Sh) {a b c : Nat} (p : perm3 a b c) (w : two m a b) {w1 w2 : Nat} (h : prest g (fun q => A a q) (fun q => A b q) Sh (H a) (H b) w1 w2) : ∃ S' R, f7_rest (nI (2 ^ a + 2 ^ b)) S = some S' ∧ mfr S S' ∧ cG S' 11 3 R ∧ gd m g A H Sh (2 ^ a + 2 ^ b) R := by
  obtain ⟨la, lb, lc, nab, nac, nbc, h3⟩ := p.lt
  have y : cyc a b c := ⟨la, lb, lc, nab, nac, nbc⟩
  have ww := w
  obtain ⟨v1, v2, v3⟩ := w
  have e3 : ((3 : Int32) - nI a) - nI b = nI c := by
    rcases p with ⟨rfl, rfl, rfl⟩ | ⟨rfl, rfl, rfl⟩ | ⟨rfl, rfl, rfl⟩ <;> decide
  have ht : 2 ^ a + 2 ^ b < 8 := two_lt a la b lb v2
  have e0 : f7_rest (nI (2 ^ a + 2 ^ b)) S = f7_rest_95 (nI (2 ^ a + 2 ^ b)) (nI a) (nI b) S := by
    unfold f7_rest f7_rest_73 f7_rest_84
    rcases p with ⟨rfl, rfl, rfl⟩ | ⟨rfl, rfl, rfl⟩ | ⟨rfl, rfl, rfl⟩
    · rw [if_neg (by decide), if_pos (by decide), if_neg (by decide), if_pos (by decide)]
      rfl
    · rw [if_neg (by decide), if_neg (by decide), if_pos (by decide), if_neg (by decide), if_neg (by decide)]
      rfl
    · rw [if_neg (by decide), if_neg (by decide), if_neg (by decide), if_pos (by decide), if_pos (by decide), if_neg (by decide)]
      rfl
  rw [e0]
  unfold f7_rest_95
  obtain ⟨r1, S1, a1, a2, a3⟩ := p7_isPairBound D C ht y (by omega) v3 e3
  rw [a1, bd2s]
  rcases a3 with ⟨er, R, G, k⟩ | ⟨er, n1⟩
  · rw [er, if_neg (by decide)]
    exact ⟨S1, R, rfl, a2, G, k⟩
  rw [er, if_pos rfl]
  obtain ⟨r2, S2, b1, b2, b3⟩ := p7_isParted2 D (mW_fr C a2) ht y (by omega) v3 e3
  rw [b1, bd2s]
  rcases b3 with ⟨er, R, G, k⟩ | ⟨er, n2⟩
  · rw [er, if_neg (by decide)]
    exact ⟨S2, R, rfl, a2.tr b2, G, k⟩
  exfalso
  rcases c_two D y ww h with ⟨q, q1, q2⟩ | ⟨z, z1, z2⟩
  · exact n1 _ ⟨q, q1, rfl⟩ q2
  · exact n2 _ ⟨z, z1, rfl⟩ z2
/-- rest of all lands -/
theorem p7_restE (D : dat m g A H Sh) (C : mW S m g A H Sh) (h : restN m g A H Sh W) : ∃ S' R, f7_rest (f7_every S) S = some S' ∧ mfr S S' ∧ cG S' 11 3 R ∧ (∀ l, l < 3 → 1 ≤ R l) ∧ restN m g A H Sh R := by
  have d1 := D.1
  have ev : f7_every S = nI (2 ^ m - 1) := by
    unfold f7_every
    rw [C.1]
    exact bt_all m d1.2
  rw [ev]
  have fin : (∃ S' R, f7_rest (nI (2 ^ m - 1)) S = some S' ∧ mfr S S' ∧ cG S' 11 3 R ∧ gd m g A H Sh (2 ^ m - 1) R) → ∃ S' R, f7_rest (nI (2 ^ m - 1)) S = some S' ∧ mfr S S' ∧ cG S' 11 3 R ∧ (∀ l, l < 3 → 1 ≤ R l) ∧ restN m g A H Sh R := by
    rintro ⟨S', R, h1, h2, h3, h4⟩
    exact ⟨S', R, h1, h2, h3, ((gd_full d1).mp h4).1, ((gd_full d1).mp h4).2⟩
  apply fin
  rcases (show m = 1 ∨ m = 2 ∨ m = 3 by omega) with rfl | rfl | rfl
  · obtain ⟨r, S', k1, k2, k3, k4, k5⟩ := p7_isRest D C (t := 1) (by omega) (R := fun _ => 1) (fun _ _ => by decide)
    refine ⟨S', fun _ => 1, ?_, k2, k4, (gd_full d1).mpr ⟨fun _ _ => Nat.le_refl _, one_rest (Nat.le_refl _)⟩⟩
    unfold f7_rest
    rw [if_neg (by decide), if_neg (by decide), if_neg (by decide), if_neg (by decide)]
    rw [show f7_isRest (nI (2 ^ 1 - 1)) 1 1 1 S = some (r, S') from k1, bd2s]
  · exact p7_rest2 D C (a := 0) (b := 1) (c := 2) (Or.inl ⟨rfl, rfl, rfl⟩) ⟨by omega, by omega, by omega⟩ (rest_pair h)
  · exact p7_rest7 D C h
/-- what the reference knows -/
def mK (S : Zs) (m g : Nat) (A : Nat → Nat → Nat) (H Sh : Nat → Nat) : Prop := S.1 0 29 = 0 ∨ (S.1 0 29 = 1 ∧ ∃ R, cG S 14 3 R ∧ (∀ l, l < 3 → 1 ≤ R l) ∧ restN m g A H Sh R)
/-- what restAll may change -/
def mfa (S S' : Zs) : Prop := (∀ a b, a ≠ 12 → ¬ (a = 0 ∧ b = 29) → S'.1 a b = S.1 a b) ∧ ∀ a, a ≠ 11 → a ≠ 13 → a ≠ 14 → S'.2 a = S.2 a
theorem mfa.rf {S : Zs} : mfa S S := ⟨fun _ _ _ _ => rfl, fun _ _ _ _ => rfl⟩
theorem mfa.tr {S S' S'' : Zs} (h : mfa S S') (h' : mfa S' S'') : mfa S S'' := ⟨fun a b e1 e2 => (h'.1 a b e1 e2).trans (h.1 a b e1 e2), fun a e1 e2 e3 => (h'.2 a e1 e2 e3).trans (h.2 a e1 e2 e3)⟩
theorem mfr.a {S S' : Zs} (h : mfr S S') : mfa S S' := ⟨fun a b e1 _ => by rw [h.1 a e1], fun a e1 e2 _ => h.2 a e1 e2⟩
theorem mW_fa {S' : Zs} (C : mW S m g A H Sh) (h : mfa S S') : mW S' m g A H Sh :=
  ⟨by rw [h.1 _ _ (by decide) (by omega)]; exact C.1, by rw [h.1 _ _ (by decide) (by omega)]; exact C.2.1, fun q hq => by rw [h.1 _ _ (by decide) (by omega)]; exact C.2.2.1 q hq, fun l hl => by rw [h.1 _ _ (by decide) (by omega)]; exact C.2.2.2.1 l hl, fun l q hl hq => by rw [h.1 _ _ (by decide) (by omega)]; exact C.2.2.2.2 l q hl hq⟩
theorem p7_copy (e29 : S.1 0 29 = 0 ∨ S.1 0 29 = 1) {R : Nat → Nat} (G : cG S (if S.1 0 29 = 0 then 11 else 14) 3 R) : ∃ S', f7_restAll_15 S = some S' ∧ mfa S S' ∧ cG S' 11 3 R ∧ cG S' 14 3 R ∧ S'.1 0 29 = 1 := by
  have key : ∀ n j (S1 : Zs), j ≤ 3 → 3 - j < n → S1.1 = S.1 → (∀ a, a ≠ 11 → a ≠ 14 → S1.2 a = S.2 a) → (∀ l, j ≤ l → S1.2 11 l = S.2 11 l ∧ S1.2 14 l = S.2 14 l) → (∀ l, l < j → S1.2 11 l = lN (R l) ∧ S1.2 14 l = lN (R l)) → ∃ S', f7_restAll_17 n (nI j) S1 = some S' ∧ mfa S S' ∧ cG S' 11 3 R ∧ cG S' 14 3 R ∧ S'.1 0 29 = 1 := by
    intro n
    induction n with
    | zero => intro j S1 _ h; omega
    | succ n ih =>
      intro j S1 hj hn e1 e2 e3 e4
      rw [f7_restAll_17]
      dsimp only
      rw [show (3 : Int32) = nI 3 from rfl]
      by_cases e : 3 ≤ j
      · rw [if_pos (nI_le e (by omega)), ltt]
        refine ⟨_, rfl, ⟨fun a b h1 h2 => ?_, fun a h1 h2 h3 => e2 a h1 h3⟩, fun l hl => ⟨(e4 l (by omega)).1, (G l hl).2⟩, fun l hl => ⟨(e4 l (by omega)).2, (G l hl).2⟩, ?_⟩
        · rw [zI_rd, if_neg h2, e1]
        · rw [zI_rd, if_pos ⟨rfl, rfl⟩]
      · have hv : ∀ v : Int64, v = lN (R j) → ∃ S', f7_restAll_49 (f7_restAll_17 n) (nI j) v (nI j) S1 = some S' ∧ mfa S S' ∧ cG S' 11 3 R ∧ cG S' 14 3 R ∧ S'.1 0 29 = 1 := by
          intro v ev
          unfold f7_restAll_49
          rw [if_pos (inb_nI (by omega) (by decide)), ltt, if_pos (inb_nI (by omega) (by decide)), if_pos (inb_nI (by omega) (by decide)), ltt, ltt, nI_clamp (by omega), show nI j + 1 = nI (j + 1) from nI_1 _]
          have e5 : (zL S1 11 j v).2 11 j = lN (R j) := by rw [zL_rd, if_pos ⟨rfl, rfl⟩]; exact ev
          rw [e5]
          refine ih (j + 1) _ (by omega) (by omega) e1 (fun a h1 h2 => ?_) (fun l hl => ?_) (fun l hl => ?_)
          · rw [zL_2n _ _ _ h2, zL_2n _ _ _ h1]; exact e2 a h1 h2
          · constructor
            · rw [zL_rd, if_neg (fun q => by omega), zL_rd, if_neg (fun q => by omega)]; exact (e3 l (by omega)).1
            · rw [zL_rd, if_neg (fun q => by omega), zL_rd, if_neg (fun q => by omega)]; exact (e3 l (by omega)).2
          · constructor
            · rw [zL_rd, if_neg (fun q => by omega), zL_rd]
              by_cases c : l = j
              · rw [if_pos ⟨rfl, c⟩, c]; exact ev
              · rw [if_neg (fun q => c q.2)]; exact (e4 l (by omega)).1
            · rw [zL_rd]
              by_cases c : l = j
              · rw [if_pos ⟨rfl, c⟩, c]
              · rw [if_neg (fun q => c q.2), zL_rd, if_neg (fun q => by omega)]; exact (e4 l (by omega)).2
        rw [if_neg (nI_ge (by omega) (by omega)), e1, nI_clamp (by omega)]
        have g := (G j (by omega)).1
        rcases e29 with z | z
        · rw [z, if_pos rfl] at g
          rw [z, if_pos rfl, if_pos (inb_nI (by omega) (by decide))]
          exact hv _ ((e3 j (Nat.le_refl _)).1.trans g)
        · rw [z, if_neg (by decide)] at g
          rw [z, if_neg (by decide), if_pos (inb_nI (by omega) (by decide))]
          exact hv _ ((e3 j (Nat.le_refl _)).2.trans g)
  exact key fuel0 0 S (by omega) (by unfold fuel0; omega) rfl (fun _ _ _ => rfl) (fun _ _ => ⟨rfl, rfl⟩) (fun l h => by omega)
theorem p7_restAll (D : dat m g A H Sh) (C : mW S m g A H Sh) (K : mK S m g A H Sh) (h : restN m g A H Sh W) : ∃ S' R, f7_restAll S = some S' ∧ mfa S S' ∧ cG S' 11 3 R ∧ cG S' 14 3 R ∧ S'.1 0 29 = 1 ∧ (∀ l, l < 3 → 1 ≤ R l) ∧ restN m g A H Sh R := by
  unfold f7_restAll
  rcases K with z | ⟨z, R, G, p, r⟩
  · obtain ⟨S1, R, a1, a2, a3, a4, a5⟩ := p7_restE D C h
    have z1 : S1.1 0 29 = 0 := by rw [a2.1 0 (by decide)]; exact z
    obtain ⟨S2, b1, b2, b3, b4, b5⟩ := p7_copy (S := S1) (Or.inl z1) (R := R) (by rw [z1, if_pos rfl]; exact a3)
    rw [z, if_pos rfl, a1, bd1s]
    exact ⟨S2, R, b1, a2.a.tr b2, b3, b4, b5, a4, a5⟩
  · obtain ⟨S2, b1, b2, b3, b4, b5⟩ := p7_copy (S := S) (Or.inr z) (R := R) (by rw [z, if_neg (by decide)]; exact G)
    rw [z, if_neg (by decide)]
    exact ⟨S2, R, b1, b2, b3, b4, b5, p, r⟩
end MR
theorem p7_cd : ∀ k n x y, y < 2 ^ k → 2 * k + 1 ≤ n → x < 2 ^ 63 → y < 2 ^ 63 → f7_common_6 n (lN x) (lN y) = some (lN (Nat.gcd x y)) := by
  have stop : ∀ n x, 1 ≤ n → f7_common_6 n (lN x) (lN 0) = some (lN x) := by
    intro n x hn
    obtain ⟨n, rfl⟩ : ∃ n', n = n' + 1 := ⟨n - 1, by omega⟩
    rw [f7_common_6]
    dsimp only
    exact if_pos rfl
  have st : ∀ n x y, 0 < y → x < 2 ^ 63 → y < 2 ^ 63 → f7_common_6 (n + 1) (lN x) (lN y) = f7_common_6 n (lN y) (lN (x % y)) := by
    intro n x y h0 hx hy
    rw [f7_common_6]
    dsimp only
    rw [if_neg (fun q => by have := (lN_0' hy).mp q; omega), if_neg (fun q => by have := (lN_0' hy).mp q; omega), ltt, pk_lRem hx h0 hy]
  intro k
  induction k with
  | zero =>
    intro n x y hy hn _ _
    have : y = 0 := by simp at hy; exact hy
    subst this
    rw [stop n x (by omega), Nat.gcd_zero_right]
  | succ k ih =>
    intro n x y hy hn hx hy3
    by_cases c : y = 0
    · subst c
      rw [stop n x (by omega), Nat.gcd_zero_right]
    · obtain ⟨n, rfl⟩ : ∃ n', n = n' + 1 + 1 := ⟨n - 2, by omega⟩
      rw [st (n + 1) x y (by omega) hx hy3, gcd_st x y]
      have l1 := Nat.mod_lt x (show y > 0 by omega)
      by_cases c2 : x % y = 0
      · rw [c2, stop _ _ (by omega), Nat.gcd_zero_right]
      · rw [st n y (x % y) (by omega) hy3 (by omega), gcd_st y (x % y)]
        have l2 := Nat.mod_lt y (show x % y > 0 by omega)
        exact ih n (x % y) (y % (x % y)) (half_of l1 (by omega) hy) (by omega) (by omega) (by omega)
theorem p7_common {x y : Nat} (hx : x < 2 ^ 63) (hy : y < 2 ^ 63) : f7_common (lN x) (lN y) = some (lN (Nat.gcd x y)) :=
  p7_cd 63 fuel0 x y hy (by unfold fuel0; omega) hx hy
/-- the reduced fraction, above or below -/
def frc (x y : Nat) (w : Int32) : Nat := (if w = 0 then x else y) / Nat.gcd x y
theorem p7_partOf {x y : Nat} (hx : x < 2 ^ 63) (hy : y < 2 ^ 63) (h1 : 1 ≤ y) (w : Int32) : f7_partOf (lN x) (lN y) w = some (lN (frc x y w)) := by
  have gp : 0 < Nat.gcd x y := Nat.gcd_pos_of_pos_right _ h1
  have gl : Nat.gcd x y ≤ y := Nat.gcd_le_right _ h1
  unfold f7_partOf f7_partOf_10 frc
  by_cases c : w = 0
  · rw [if_pos c, if_pos c, p7_common hx hy, bd1s, if_neg (fun q => by have := (lN_0' (by omega)).mp q; omega), pk_lDiv hx gp (by omega)]
  · rw [if_neg c, if_neg c, p7_common hx hy, bd1s, if_neg (fun q => by have := (lN_0' (by omega)).mp q; omega), pk_lDiv hy gp (by omega)]
theorem p6_part {x y : Nat} (hx : x < 2 ^ 63) (hy : y < 2 ^ 63) (h1 : 1 ≤ y) (w : Int32) : f6_part (lN x) (lN y) w = some (lN (frc x y w)) := by
  have gp : 0 < Nat.gcd x y := Nat.gcd_pos_of_pos_right _ h1
  have gl : Nat.gcd x y ≤ y := Nat.gcd_le_right _ h1
  unfold f6_part
  rw [p6_commonDivisor hx hy, bd1s]
  have fin : ∀ v : Nat, v < 2 ^ 63 → f6_part_17 (lN (Nat.gcd x y)) (lN v) = some (lN (v / Nat.gcd x y)) := by
    intro v hv
    unfold f6_part_17
    rw [show (1 : Int64) = lN 1 from rfl]
    by_cases c : Nat.gcd x y ≤ 1
    · rw [if_pos ((pk_lLE (by omega) (by omega)).mpr c), show Nat.gcd x y = 1 by omega, Nat.div_one]
    · rw [if_neg (fun q => c ((pk_lLE (by omega) (by omega)).mp q)), if_neg (fun q => by have := (lN_0' (by omega)).mp q; omega), pk_lDiv hv gp (by omega)]
  unfold frc
  by_cases c : w = 0
  · rw [if_pos c, if_pos c]
    exact fin x hx
  · rw [if_neg c, if_neg c]
    exact fin y hy
/-- fractions that are alike have one reduced form -/
theorem frc_one {x y x' y' : Nat} (h1 : 1 ≤ x) (h2 : 1 ≤ y) (h3 : 1 ≤ x') (h4 : 1 ≤ y') (e : x * y' = x' * y) (w : Int32) : frc x y w = frc x' y' w := by
  have d1 : 0 < Nat.gcd x y := Nat.gcd_pos_of_pos_right _ h2
  have d2 : 0 < Nat.gcd x' y' := Nat.gcd_pos_of_pos_right _ h4
  have g1 : Nat.gcd x y * y' = Nat.gcd x' y' * y := by
    rw [← Nat.gcd_mul_right, ← Nat.gcd_mul_right, e, Nat.mul_comm y y']
  have g2 : Nat.gcd x y * x' = Nat.gcd x' y' * x := by
    rw [← Nat.gcd_mul_right, ← Nat.gcd_mul_right, Nat.mul_comm x x', Nat.mul_comm y x', ← e, Nat.mul_comm x y']
  obtain ⟨a, ea⟩ := Nat.gcd_dvd_left x y
  obtain ⟨b, eb⟩ := Nat.gcd_dvd_right x y
  obtain ⟨a', ea'⟩ := Nat.gcd_dvd_left x' y'
  obtain ⟨b', eb'⟩ := Nat.gcd_dvd_right x' y'
  have qx : x / Nat.gcd x y = a := by
    have : Nat.gcd x y * a / Nat.gcd x y = a := Nat.mul_div_cancel_left a d1
    rw [← ea] at this
    exact this
  have qy : y / Nat.gcd x y = b := by
    have : Nat.gcd x y * b / Nat.gcd x y = b := Nat.mul_div_cancel_left b d1
    rw [← eb] at this
    exact this
  have qx' : x' / Nat.gcd x' y' = a' := by
    have : Nat.gcd x' y' * a' / Nat.gcd x' y' = a' := Nat.mul_div_cancel_left a' d2
    rw [← ea'] at this
    exact this
  have qy' : y' / Nat.gcd x' y' = b' := by
    have : Nat.gcd x' y' * b' / Nat.gcd x' y' = b' := Nat.mul_div_cancel_left b' d2
    rw [← eb'] at this
    exact this
  have ab : a = a' := by
    generalize Nat.gcd x y = d at *
    generalize Nat.gcd x' y' = d' at *
    have : d * d' * a = d * d' * a' := by
      have k1 : d * d' * a' = d * x' := by rw [ea']; grind
      have k2 : d * d' * a = d' * x := by rw [ea]; grind
      rw [k1, k2, g2]
    exact Nat.eq_of_mul_eq_mul_left (Nat.mul_pos d1 d2) this
  have bb : b = b' := by
    generalize Nat.gcd x y = d at *
    generalize Nat.gcd x' y' = d' at *
    have : d * d' * b = d * d' * b' := by
      have k1 : d * d' * b' = d * y' := by rw [eb']; grind
      have k2 : d * d' * b = d' * y := by rw [eb]; grind
      rw [k1, k2, g1]
    exact Nat.eq_of_mul_eq_mul_left (Nat.mul_pos d1 d2) this
  unfold frc
  split
  · rw [qx, qx', ab]
  · rw [qy, qy', bb]
