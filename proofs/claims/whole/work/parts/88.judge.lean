/-! judge -/
section JU
variable {C M : Zs} {m g : Nat} {A : Nat → Nat → Nat} {H Sh W R : Nat → Nat}
/-- looking for k items of a row -/
theorem g_look (h : iR C M) {r k : Nat} (hr : r < 8) (hk : k ≤ 6) (x : Int32) : (∃ f : Int32, (f = 1 ∨ f = 2) ∧ f6_findingAt C (nI r) x (nI k) = some f ∧ f7_lookItems (nI r) x (nI k) M = some ((-9000000000000000010 : Int64) - f.toInt64, zI M 0 1 f)) ∨ ∃ i n, x = nI i ∧ i + k ≤ n ∧ n ≤ 40 ∧ f6_findingAt C (nI r) x (nI k) = some 0 ∧ f7_lookItems (nI r) x (nI k) M = some (0, M) ∧ ∀ t, t < n → C.1 (3 + r) t = M.1 3 (40 * r + t) := by
  unfold f6_findingAt f7_lookItems
  rw [if_pos (inb_nI hr (by decide)), nI_clamp (show r < 2 ^ 31 by omega)]
  have z := z32
  have uk := nI_toInt (n := k) (by omega)
  rcases h r hr with ⟨y1, y2⟩ | ⟨n, l, y1, y2, y3, y4, y5, y6, y7⟩
  · left
    rw [p2_miss1 hr y1, bd1s, if_neg i10, y2, if_neg (by decide)]
    exact ⟨1, Or.inl rfl, rfl, rfl⟩
  rw [p2_miss0 hr y1 y3, bd1s, if_pos rfl, y6, if_pos (nI_pos' (by omega))]
  by_cases c : x < 0
  · left
    have d := c
    rw [Int32.lt_iff_toInt_lt] at d
    rw [p2_hasN hr y1 y3 (by omega), bd1s, if_pos rfl, if_pos c]
    exact ⟨2, Or.inr rfl, rfl, rfl⟩
  obtain ⟨i, hi, rfl⟩ := nI_of c
  have ui := nI_toInt hi
  rw [if_neg c, if_pos (inb_nI hr (by decide)), y4]
  by_cases t : i + k ≤ n
  · right
    rw [p2_hasY hr y1 y3 (by omega), bd1s, if_neg i10, if_pos ((i64cmp hi (by omega) (by omega)).2.mpr t)]
    exact ⟨i, n, rfl, t, y1, rfl, rfl, y7⟩
  · left
    rw [p2_hasN hr y1 y3 (by omega), bd1s, if_pos rfl, if_neg (fun s => t ((i64cmp hi (by omega) (by omega)).2.mp s))]
    exact ⟨2, Or.inr rfl, rfl, rfl⟩
def okr (hi : Int32) (x : Int32) : Prop := ¬ x < 1 ∧ x ≤ hi
theorem rng_1 (x hi : Int32) : (okr hi x → f7_in x.toInt64 1 hi.toInt64 = 1) ∧ (¬ okr hi x → f7_in x.toInt64 1 hi.toInt64 = 0) := by
  rw [show (1 : Int64) = (1 : Int32).toInt64 from rfl, inI]
  unfold okr
  constructor
  · rintro ⟨h1, h2⟩
    rw [if_neg h1, if_neg (fun k => (i32lt _ _).mpr k h2)]
  · intro h
    by_cases c : x < 1
    · rw [if_pos c]
    · rw [if_neg c, if_pos]
      by_cases c2 : hi < x
      · exact c2
      · exact absurd ⟨c, (i32le _ _).mp c2⟩ h
theorem okr_nat {hi x : Int32} {n : Nat} (e : hi = nI n) (hn : n < 2 ^ 31) (h : okr hi x) : ∃ w, 1 ≤ w ∧ w ≤ n ∧ x = nI w := by
  have c0 : ¬ x < 0 := fun k => h.1 (by
    have z := z32
    have o := o32
    rw [Int32.lt_iff_toInt_lt] at k ⊢
    omega)
  obtain ⟨w, h1, rfl⟩ := i32_01 c0 hn (by rw [← e]; exact h.2)
  refine ⟨w, ?_, h1, rfl⟩
  by_cases z : w = 0
  · exact absurd (by rw [z]; decide) h.1
  · omega
theorem p2_item {r i : Nat} (hr : r < 8) (hi : i < 40) : f2_item C (nI r) (nI i) = some (C.1 (3 + r) i) := by
  unfold f2_item
  rw [if_pos (inb_nI hr (by decide)), if_pos (inb_nI hi (by decide)), nI_clamp (by omega), nI_clamp (by omega)]
theorem j_cl {r i : Nat} (hr : r < 8) (hi : i + m ≤ 40) (hm : m ≤ 3) (e0 : C.1 37 0 = nI m) (V : Nat → Int32) (hV : ∀ l, l < m → C.1 (3 + r) (i + l) = V l) : ∀ n l (S : Zs), l ≤ m → m - l < n → rowL C S 64 → (∀ j, j < l → okr 999 (V j) ∧ S.2 64 j = (V j).toInt64) → ∃ S', rowL C S' 64 ∧ (((∃ l, l < m ∧ ¬ okr 999 (V l)) ∧ f6_judge_52 n (nI r) (nI i) (nI l) S = some ((-9000000000000000001 : Int64), S')) ∨ ((∀ j, j < m → okr 999 (V j) ∧ S'.2 64 j = (V j).toInt64) ∧ f6_judge_52 n (nI r) (nI i) (nI l) S = bd2 (f5_idleBy 37 64 S') fun r121 S121 => bd2 (f6_fine r121.toInt64 S121) fun r125 S125 => some (r125, S125))) := by
  intro n
  induction n with
  | zero => intro l S _ h; omega
  | succ n ih =>
    intro l S hl hn hS hj
    unfold f6_judge_52
    rw [hS.1, e0]
    by_cases e : m ≤ l
    · rw [if_pos (nI_le e (by omega))]
      exact ⟨S, hS, Or.inr ⟨fun j h => hj j (by omega), rfl⟩⟩
    · rw [if_neg (nI_ge (by omega) (by omega)), nI_add, p2_item (C := S) hr (by omega), bd1s, hS.1, hV l (by omega)]
      by_cases c1 : V l < 1
      · rw [if_pos c1]
        exact ⟨S, hS, Or.inl ⟨⟨l, by omega, fun k => k.1 c1⟩, rfl⟩⟩
      rw [if_neg c1]
      by_cases c2 : V l ≤ 999
      · rw [if_pos c2, if_pos (inb_nI (by omega) (by decide)), ltt, ltt, nI_clamp (by omega), show nI l + 1 = nI (l + 1) from nI_1 _]
        exact ih (l + 1) _ (by omega) (by omega) (hS.tr rowL.put) (fun j h => by
          rw [zL_rd]
          by_cases e : j = l
          · rw [if_pos ⟨rfl, e⟩, e]
            exact ⟨⟨c1, c2⟩, rfl⟩
          · rw [if_neg (fun q => e q.2)]
            exact hj j (by omega))
      · rw [if_neg c2]
        exact ⟨S, hS, Or.inl ⟨⟨l, by omega, fun k => c2 k.2⟩, rfl⟩⟩
theorem j_m1 {r i : Nat} (hr : r < 8) (hi : i + m ≤ 40) (hm : m ≤ 3) (e0 : M.1 0 5 = nI m) (V : Nat → Int32) (hV : ∀ l, l < m → M.1 3 (40 * r + i + l) = V l) : ∀ n l, l ≤ m → m - l < n → (∀ j, j < l → okr 999 (V j)) → ((∃ l, l < m ∧ ¬ okr 999 (V l)) ∧ f7_judge_49 n (nI r) (nI i) (nI l) M = some ((-9000000000000000001 : Int64), M)) ∨ ((∀ j, j < m → okr 999 (V j)) ∧ f7_judge_49 n (nI r) (nI i) (nI l) M = f7_judge_101 fuel0 (nI r) (nI i) 0 (zI M 0 1 0)) := by
  intro n
  induction n with
  | zero => intro l _ h; omega
  | succ n ih =>
    intro l hl hn hj
    unfold f7_judge_49
    rw [e0]
    by_cases e : m ≤ l
    · rw [if_pos (nI_le e (by omega)), ltt]
      exact Or.inr ⟨fun j h => hj j (by omega), rfl⟩
    · rw [if_neg (nI_ge (by omega) (by omega)), ix40, nI_add, if_pos (inb_nI (by omega) (by decide)), nI_clamp (by omega), hV l (by omega), show (999 : Int64) = (999 : Int32).toInt64 from rfl]
      by_cases c : okr 999 (V l)
      · rw [(rng_1 _ _).1 c, if_neg i10, ltt, show nI l + 1 = nI (l + 1) from nI_1 _]
        exact ih (l + 1) (by omega) (by omega) (fun j h => by
          by_cases e : j = l
          · rw [e]; exact c
          · exact hj j (by omega))
      · rw [(rng_1 _ _).2 c, if_pos rfl]
        exact Or.inl ⟨⟨l, by omega, c⟩, rfl⟩
theorem j_m2 {r i : Nat} (hr : r < 8) (hi : i + m ≤ 40) (hm : m ≤ 3) (e0 : M.1 0 5 = nI m) (V : Nat → Int32) (hV : ∀ l, l < m → M.1 3 (40 * r + i + l) = V l) : ∀ n l (S : Zs), l ≤ m → m - l < n → rowL M S 11 → (∀ j, j < l → S.2 11 j = (V j).toInt64) → ∃ S', rowL M S' 11 ∧ (∀ j, j < m → S'.2 11 j = (V j).toInt64) ∧ f7_judge_101 n (nI r) (nI i) (nI l) S = bd2 (f7_idleOf (f7_every S') S') fun r143 S143 => some (r143.toInt64, S143) := by
  intro n
  induction n with
  | zero => intro l S _ h; omega
  | succ n ih =>
    intro l S hl hn hS hj
    unfold f7_judge_101
    rw [hS.1, e0]
    by_cases e : m ≤ l
    · rw [if_pos (nI_le e (by omega))]
      exact ⟨S, hS, fun j h => hj j (by omega), rfl⟩
    · rw [if_neg (nI_ge (by omega) (by omega)), ix40, nI_add, if_pos (inb_nI (by omega) (by decide)), if_pos (inb_nI (by omega) (by decide)), nI_clamp (show 40 * r + i + l < 2 ^ 31 by omega), nI_clamp (show l < 2 ^ 31 by omega), hV l (by omega), ltt, ltt, show nI l + 1 = nI (l + 1) from nI_1 _]
      exact ih (l + 1) _ (by omega) (by omega) (hS.tr rowL.put) (fun j h => by
        rw [zL_rd]
        by_cases e : j = l
        · rw [if_pos ⟨rfl, e⟩, e]
        · rw [if_neg (fun q => e q.2)]
          exact hj j (by omega))
theorem f2bad : ∀ f : Int32, (f = 1 ∨ f = 2) → ¬ (0 : Int64) ≤ (-9000000000000000010 : Int64) - f.toInt64 ∧ ¬ f = 0 := by
  rintro f (rfl | rfl)
  · exact ⟨by decide, by decide⟩
  · exact ⟨by decide, by decide⟩
theorem s_judge (h : II C M) (x1 x2 : Int32) : ∃ (r : Int64) (C' M' : Zs), (f6_judge x1 x2 C = some (r, C')) ∧ (f7_judge x1 x2 M = some (r, M')) ∧ II C' M' := by
  have h2 := II_t0 h
  unfold f7_judge f6_judge
  rw [ltt]
  generalize zI M 0 0 0 = M2 at h2 ⊢
  rcases g_row x1 with ⟨e1, e2⟩ | ⟨r, hr, rfl, e1, e2⟩
  · rw [e1, e2, if_pos rfl, if_pos rfl]
    exact ⟨_, C, M2, rfl, rfl, h2⟩
  rw [e1, e2, if_neg i10, if_neg i10]
  unfold f5_isThere
  rcases h2.2.2.1 with v | ⟨m, g, A, H, Sh, W, v⟩
  · rw [v.1, v.2.2.1, if_pos (by decide), if_pos rfl]
    exact ⟨_, C, M2, rfl, rfl, h2⟩
  have v' := v
  obtain ⟨D, c37, g44, rW, mw, mk, ih⟩ := v'
  have d1 := D.1
  rw [c37.1, mw.1, if_neg (show ¬ (if nI m ≤ 0 then (0 : Int32) else 1) = 0 by rw [if_neg (nI_nle (by omega) (by omega))]; exact i10), if_neg (nI_ne0 (by omega) (by omega))]
  rcases g_look h2.1 hr (k := m) (by omega) x2 with ⟨f, f1, f2, f3⟩ | ⟨i, n, rfl, n1, n2, f2, f3, f4⟩
  · rw [f2, f3, bd1s, bd2s, if_neg (f2bad f f1).1, if_neg (f2bad f f1).2]
    exact ⟨_, _, _, rfl, rfl, II_fine h2 f⟩
  rw [f2, f3, bd1s, bd2s, if_pos rfl, if_pos (by decide)]
  have hV : ∀ l, l < m → M2.1 3 (40 * r + i + l) = C.1 (3 + r) (i + l) := fun l hl => by rw [f4 (i + l) (by omega), Nat.add_assoc]
  obtain ⟨S', q1, q2⟩ := j_cl hr (i := i) (by omega) d1.2 c37.1 (fun l => C.1 (3 + r) (i + l)) (fun _ _ => rfl) fuel0 0 C (by omega) (by unfold fuel0; omega) rowL.rf (fun j hj => by omega)
  have kC : cst C S' := ⟨fun a _ => by rw [q1.1], q1.2 44 (by decide), q1.2 53 (by decide)⟩
  rcases j_m1 hr (i := i) (by omega) d1.2 mw.1 (fun l => C.1 (3 + r) (i + l)) hV fuel0 0 (by omega) (by unfold fuel0; omega) (fun j hj => by omega) with ⟨⟨l, hl, hb⟩, e⟩ | ⟨hg, e⟩
  · rcases q2 with ⟨_, e'⟩ | ⟨hg, _⟩
    · rw [show (0 : Int32) = nI 0 from rfl, e, e']
      exact ⟨_, _, _, rfl, rfl, II_cst h2 kC⟩
    · exact absurd (hg l hl).1 hb
  rcases q2 with ⟨⟨l, hl, hb⟩, _⟩ | ⟨hg2, e'⟩
  · exact absurd (hg l hl) hb
  obtain ⟨T', t1, t2, t3⟩ := j_m2 hr (i := i) (M := zI M2 0 1 0) (by omega) d1.2 (by rw [zI_rd, if_neg (by decide)]; exact mw.1) (fun l => C.1 (3 + r) (i + l)) (fun l hl => by rw [zI_1n _ _ _ (by decide)]; exact hV l hl) fuel0 0 _ (by omega) (by unfold fuel0; omega) rowL.rf (fun j hj => by omega)
  rw [show (0 : Int32) = nI 0 from rfl, e, e', show f7_judge_101 fuel0 (nI r) (nI i) 0 (zI M2 0 1 0) = _ from t3]
  have ex : ∃ w : Nat → Nat, ∀ l, l < m → 1 ≤ w l ∧ w l ≤ 999 ∧ C.1 (3 + r) (i + l) = nI (w l) := by
    refine ⟨fun l => (C.1 (3 + r) (i + l)).toNatClampNeg, fun l hl => ?_⟩
    obtain ⟨w, h1, h2, h3⟩ := okr_nat (n := 999) rfl (by decide) (hg l hl)
    have h3' : C.1 (3 + r) (i + l) = nI w := h3
    show 1 ≤ (C.1 (3 + r) (i + l)).toNatClampNeg ∧ (C.1 (3 + r) (i + l)).toNatClampNeg ≤ 999 ∧ C.1 (3 + r) (i + l) = nI (C.1 (3 + r) (i + l)).toNatClampNeg
    rw [h3', nI_clamp (by omega)]
    exact ⟨h1, h2, rfl⟩
  obtain ⟨w, hw⟩ := ex
  have G1 : cG S' 64 m w := fun l hl => by
    obtain ⟨w1, w2, w3⟩ := hw l hl
    rw [(hg2 l hl).2, w3, nI_l (by omega)]
    exact ⟨rfl, by omega⟩
  have G2 : cG T' 11 m w := fun l hl => by
    obtain ⟨w1, w2, w3⟩ := hw l hl
    rw [t2 l hl, w3, nI_l (by omega)]
    exact ⟨rfl, by omega⟩
  have cS : cW S' 37 m g A H Sh := cW_same c37 d1.2 ⟨fun a _ _ => by rw [q1.1], q1.2 44 (by decide)⟩
  have mT : mW T' m g A H Sh := mW_fr2 mw (by rw [t1.1, zI_rd, if_neg (by decide)]) (by rw [t1.1, zI_rd, if_neg (by decide)]) (fun a _ _ => by rw [t1.1, zI_1n _ _ _ (by omega)])
  obtain ⟨u, U, u1, u2, u3⟩ := p5_idleBy trivial D cS G1
  obtain ⟨u', U', u1', u2', u3'⟩ := p7_idleOf D mT G2 (t := 2 ^ m - 1) (by have := pw8 d1.2; omega)
  have eu := idle_one u1 (idle_full d1 u1')
  rw [p7_every D mT, u2, bd2s, u2', bd2s, ← eu]
  refine ⟨_, _, _, rfl, rfl, ?_⟩
  have kU : cst C U := kC.tr ⟨fun a e => funext fun b => u3.2 a b (by omega), by rw [u3.1], by rw [u3.1]⟩
  refine II_st (II_fine (II_cst h2 kU) 0) ((show mst (zI M2 0 1 0) T' from ⟨fun b _ => by rw [t1.1], fun a _ _ => by rw [t1.1], fun a _ e _ => t1.2 a e⟩).tr ⟨fun b _ => u3'.2 0 b (by decide), fun a _ e => funext fun b => u3'.2 a b e, fun a _ _ _ => by rw [u3'.1]⟩)
end JU
