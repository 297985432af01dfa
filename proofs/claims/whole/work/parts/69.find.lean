/-! findTied: halving the chain of two lands -/
theorem srt_inj {g : Nat} {f s od : Nat → Nat} (hs : srt g f s od) {i j : Nat} (hi : i < g) (hj : j < g) (e : od i = od j) : i = j := by
  have no : ∀ x, ¬ ahd f s x x := fun x h => by
    rcases h with h | h
    · omega
    · omega
  rcases Nat.lt_trichotomy i j with h | h | h
  · have := hs.2.1 i j h hj
    rw [e] at this
    exact absurd this (no _)
  · exact h
  · have := hs.2.1 j i h hi
    rw [e] at this
    exact absurd this (no _)
theorem srt_sur {g : Nat} {f s od : Nat → Nat} (hs : srt g f s od) {q : Nat} (hq : q < g) : ∃ i, i < g ∧ od i = q := by
  by_cases c : ∃ i, i < g ∧ od i = q
  · exact c
  · exfalso
    have e := hs.2.2 (fun x => if x = q then 1 else 0)
    have z : ∀ n, n ≤ g → ns n (fun i => if od i = q then 1 else 0) = 0 := by
      intro n
      induction n with
      | zero => intro _; rfl
      | succ n ih =>
        intro h
        show ns n (fun i => if od i = q then 1 else 0) + (if od n = q then 1 else 0) = 0
        rw [ih (by omega), if_neg (fun k => c ⟨n, by omega, k⟩)]
    have y : ∀ n, q < n → 1 ≤ ns n (fun x => if x = q then 1 else 0) := by
      intro n
      induction n with
      | zero => intro h; omega
      | succ n ih =>
        intro h
        show 1 ≤ ns n (fun x => if x = q then 1 else 0) + (if n = q then 1 else 0)
        by_cases k : n = q
        · rw [if_pos k]; omega
        · have := ih (by omega)
          omega
    have := y g hq
    have := z g (Nat.le_refl _)
    omega
/-- as before but for what findTied writes -/
def frl (S S' : Zs) (o : Nat) : Prop := ∀ x, (x < 23 ∨ 28 ≤ x) → x ≠ o + 7 → x ≠ o + 8 → S'.1 x = S.1 x ∧ S'.2 x = S.2 x
theorem frl.rf {S : Zs} {o : Nat} : frl S S o := fun _ _ _ _ => ⟨rfl, rfl⟩
theorem frl.tr {S S' S'' : Zs} {o : Nat} (h : frl S S' o) (h' : frl S' S'' o) : frl S S'' o := fun x h1 h2 h3 => ⟨(h' x h1 h2 h3).1.trans (h x h1 h2 h3).1, (h' x h1 h2 h3).2.trans (h x h1 h2 h3).2⟩
def frm (S S' : Zs) (o : Nat) : Prop := ∀ x, (x < 18 ∨ 32 ≤ x) → x ≠ o + 7 → x ≠ o + 8 → S'.1 x = S.1 x ∧ S'.2 x = S.2 x
theorem frm.rf {S : Zs} {o : Nat} : frm S S o := fun _ _ _ _ => ⟨rfl, rfl⟩
theorem frm.tr {S S' S'' : Zs} {o : Nat} (h : frm S S' o) (h' : frm S' S'' o) : frm S S'' o := fun x h1 h2 h3 => ⟨(h' x h1 h2 h3).1.trans (h x h1 h2 h3).1, (h' x h1 h2 h3).2.trans (h x h1 h2 h3).2⟩
theorem frl.frm {S S' : Zs} {o : Nat} (h : frl S S' o) : frm S S' o := fun x h1 h2 h3 => h x (by omega) h2 h3
theorem cW_frm {S S' : Zs} {o m g : Nat} {A : Nat → Nat → Nat} {H Sh : Nat → Nat} (ho : 33 ≤ o) (hm : m ≤ 3) (C : cW S o m g A H Sh) (h : frm S S' o) : cW S' o m g A H Sh :=
  ⟨by rw [(h o (by omega) (by omega) (by omega)).1]; exact C.1, by rw [(h o (by omega) (by omega) (by omega)).1]; exact C.2.1, fun q hq => by rw [(h (o + 1) (by omega) (by omega) (by omega)).1]; exact C.2.2.1 q hq, fun l hl => by rw [(h (o + 2) (by omega) (by omega) (by omega)).1]; exact C.2.2.2.1 l hl, fun l q hl hq => by rw [(h (o + 4 + l) (by omega) (by omega) (by omega)).1]; exact C.2.2.2.2 l q hl hq⟩
theorem itep {P Q : Prop} (h : P ↔ Q) : @ite Nat P (Classical.propDecidable _) 1 0 = @ite Nat Q (Classical.propDecidable _) 1 0 := by
  have := propext h
  subst this
  rfl
section F1
variable {S : Zs} {o g : Nat} {A : Nat → Nat → Nat} {H Sh : Nat → Nat} {V : Nat → Rat}
/-- land a is better at q than land b at wages V -/
def btr (A : Nat → Nat → Nat) (V : Nat → Rat) (a b q : Nat) : Prop := q2 A a q * V a < q2 A b q * V b
theorem btr_dn (D : dat 3 g A H Sh) (hV : ∀ l, l < 3 → 0 < V l) {a b x j : Nat} (ha : a < 3) (hb : b < 3) (hx : x < g) (hj : j < g) (h : A a x * A b j ≤ A a j * A b x) (k : btr A V a b j) : btr A V a b x := by
  have px : (0 : Rat) < q2 A b x := qc_pos (D.2.2.2.2 b x hb hx).1
  have pj : (0 : Rat) < q2 A b j := qc_pos (D.2.2.2.2 b j hb hj).1
  have hh : q2 A a x * q2 A b j ≤ q2 A a j * q2 A b x := by
    show ((A a x : Nat) : Rat) * ((A b j : Nat) : Rat) ≤ ((A a j : Nat) : Rat) * ((A b x : Nat) : Rat)
    rw [← qc_mul, ← qc_mul, qc_le]
    exact h
  have pa := hV a ha
  unfold btr at k ⊢
  have a1 : 0 ≤ V a * (q2 A a j * q2 A b x - q2 A a x * q2 A b j) := Rat.mul_nonneg (Rat.le_of_lt pa) (by grind)
  have a2 : 0 < q2 A b x * (q2 A b j * V b - q2 A a j * V a) := Rat.mul_pos px (by grind)
  exact q_cancel pj (by grind)
theorem btr_up (D : dat 3 g A H Sh) (hV : ∀ l, l < 3 → 0 < V l) {a b x j : Nat} (ha : a < 3) (hb : b < 3) (hx : x < g) (hj : j < g) (h : A a j * A b x ≤ A a x * A b j) (k : btr A V b a j) : btr A V b a x := btr_dn D hV hb ha hx hj (by rw [Nat.mul_comm (A b x), Nat.mul_comm (A b j)]; exact h) k
/-- what the idle set of the tied row tells -/
theorem tie_side (D : dat 3 g A H Sh) (hV : ∀ l, l < 3 → 0 < V l) (rV : rest 3 g (q2 A) (q1 H) (q1 Sh) V) {a b j t : Nat} (ha : a < 3) (hb : b < 3) (hj : j < g) {W : Nat → Nat} (hW : ∀ l, l < 3 → 1 ≤ W l) (e : W a * A a j = W b * A b j) (hok : ∀ t, t.testBit a = t.testBit b → okN 3 g A H Sh W t) (hn : ¬ okN 3 g A H Sh W t) (ta : t.testBit a = true) (tb : t.testBit b = false) : btr A V a b j := by
  have hm : 1 ≤ 3 ∧ 3 ≤ 3 := by omega
  have s := side (posA_N D) (v := V) (w := q1 W) hV (fun l hl => qc_pos (hW l hl)) rV ha hb (T := fun l => t.testBit l) (fun k => hn ((ok_N hm (fun _ _ => rfl)).mp k)) ta tb (fun U hU => by
    obtain ⟨u, hu, eu⟩ := num_of (m := 3) (by omega) U
    exact (ok_N hm eu).mpr (hok u (by rw [eu a ha, eu b hb]; exact hU)))
  have e2 : q1 W a * q2 A a j = q1 W b * q2 A b j := by
    show ((W a : Nat) : Rat) * ((A a j : Nat) : Rat) = ((W b : Nat) : Rat) * ((A b j : Nat) : Rat)
    rw [← qc_mul, ← qc_mul, e]
  have pa : (0 : Rat) < q1 W a := qc_pos (hW a ha)
  have pj : (0 : Rat) < q2 A b j := qc_pos (D.2.2.2.2 b j hb hj).1
  unfold btr
  have a1 : 0 < q2 A b j * (V b * q1 W a - V a * q1 W b) := Rat.mul_pos pj (by grind)
  have a3 : V a * (q1 W a * q2 A a j) = V a * (q1 W b * q2 A b j) := by rw [e2]
  exact q_cancel pa (by grind)
/-- the wins after a pair -/
noncomputable def wup (A : Nat → Nat → Nat) (V : Nat → Rat) (a b : Nat) (wn : Nat → Nat → Nat) (l q : Nat) : Nat := wn l q + @ite Nat ((l = a ∧ btr A V a b q) ∨ (l = b ∧ ¬ btr A V a b q)) (Classical.propDecidable _) 1 0
theorem p1_wins (ho : 33 ≤ o) (hg : 1 ≤ g ∧ g ≤ 6) {a b c : Nat} (p : perm3 a b c) {od : Nat → Nat} (hs : srt g (fun q => A a q) (fun q => A b q) od) (eg : S.1 o 1 = nI g) (e22 : ∀ i, i < g → S.1 22 i = nI (od i)) {wn : Nat → Nat → Nat} (hw : ∀ l q, l < 3 → q < g → S.1 (29 + l) q = nI (wn l q)) {lo : Nat} (hlo : lo ≤ g) (h1 : ∀ i, i < lo → btr A V a b (od i)) (h2 : ∀ i, lo ≤ i → i < g → btr A V b a (od i)) : ∃ S', f1_findTied_114 o (nI a) (nI b) (nI lo) S = some (0, S') ∧ (∀ x, (x < 29 ∨ 32 ≤ x) → S'.1 x = S.1 x) ∧ S'.2 = S.2 ∧ ∀ l q, l < 3 → q < g → S'.1 (29 + l) q = nI (wup A V a b wn l q) := by
  obtain ⟨la, lb, lc, nab, nac, nbc, h3⟩ := p.lt
  have hP : ∀ i, i < g → (btr A V a b (od i) ↔ i < lo) := by
    intro i hi
    constructor
    · intro k
      by_cases c : i < lo
      · exact c
      · have := h2 i (by omega) hi
        unfold btr at k this
        grind
    · exact h1 i
  have key : ∀ n j (S1 : Zs), j ≤ g → g - j < n → (∀ x, (x < 29 ∨ 32 ≤ x) → S1.1 x = S.1 x) → S1.2 = S.2 → (∀ l q, l < 3 → q < g → S1.1 (29 + l) q = nI (wn l q + @ite Nat ((∃ i, i < j ∧ od i = q) ∧ ((l = a ∧ btr A V a b q) ∨ (l = b ∧ ¬ btr A V a b q))) (Classical.propDecidable _) 1 0)) → ∃ S', f1_findTied_117 o n (nI a) (nI b) (nI lo) (nI j) S1 = some (0, S') ∧ (∀ x, (x < 29 ∨ 32 ≤ x) → S'.1 x = S.1 x) ∧ S'.2 = S.2 ∧ ∀ l q, l < 3 → q < g → S'.1 (29 + l) q = nI (wup A V a b wn l q) := by
    intro n
    induction n with
    | zero => intro j S1 _ h; omega
    | succ n ih =>
      intro j S1 hj hn f1 f2 hw1
      rw [f1_findTied_117]
      dsimp only
      rw [f1 o (by omega), eg]
      by_cases e : g ≤ j
      · rw [if_pos (nI_le e (by omega))]
        refine ⟨S1, rfl, f1, f2, fun l q hl hq => ?_⟩
        rw [hw1 l q hl hq]
        unfold wup
        have ex : ∃ i, i < j ∧ od i = q := by
          obtain ⟨i, hi, ei⟩ := srt_sur hs hq
          exact ⟨i, by omega, ei⟩
        rw [itep (Q := (l = a ∧ btr A V a b q) ∨ (l = b ∧ ¬ btr A V a b q)) ⟨fun k => k.2, fun k => ⟨ex, k⟩⟩]
      · rw [if_neg (nI_ge (by omega) (by omega))]
        have oj := hs.1 j (by omega)
        have cell : ∀ t0, t0 < 3 → (t0 = if j < lo then a else b) → ∃ S', f1_findTied_142 o (f1_findTied_117 o n) (nI a) (nI b) (nI lo) (nI j) (nI t0) S1 = some (0, S') ∧ (∀ x, (x < 29 ∨ 32 ≤ x) → S'.1 x = S.1 x) ∧ S'.2 = S.2 ∧ ∀ l q, l < 3 → q < g → S'.1 (29 + l) q = nI (wup A V a b wn l q) := by
          intro t0 ht0 et0
          unfold f1_findTied_142
          rw [if_pos (inb_nI ht0 (by decide)), if_pos (inb_nI (by omega) (by decide)), nI_clamp (show j < 2 ^ 31 by omega), nI_clamp (show t0 < 2 ^ 31 by omega), f1 (18 + 4) (by omega), show S.1 (18 + 4) j = nI (od j) from e22 j (by omega), if_pos (inb_nI (by omega) (by decide)), if_pos (inb_nI (by omega) (by decide)), ltt, ltt, nI_clamp (show od j < 2 ^ 31 by omega), show nI j + 1 = nI (j + 1) from nI_1 _]
          refine ih (j + 1) _ (by omega) (by omega) (fun x hx => ?_) (by rw [zI_2]; exact f2) (fun l q hl hq => ?_)
          · rw [zI_1n _ _ _ (by omega)]
            exact f1 x hx
          · have notb : ¬ ∃ i, i < j ∧ od i = od j := fun ⟨i, hi, ei⟩ => by
              have := srt_inj hs (by omega) (show j < g by omega) ei
              omega
            rw [zI_rd]
            by_cases cq : q = od j
            · by_cases cl : l = t0
              · rw [if_pos ⟨by omega, cq⟩, hw1 t0 (od j) ht0 oj, if_neg (fun k => notb k.1), show ∀ x, nI x + (1 : Int32) = nI (x + 1) from fun x => nI_1 x, cl, cq, if_pos ?_]
                refine ⟨⟨j, by omega, rfl⟩, ?_⟩
                by_cases c9 : j < lo
                · rw [if_pos c9] at et0
                  exact Or.inl ⟨et0, h1 j c9⟩
                · rw [if_neg c9] at et0
                  exact Or.inr ⟨et0, fun k => c9 ((hP j (by omega)).mp k)⟩
              · rw [if_neg (fun k => cl (by omega)), hw1 l q hl hq, cq, if_neg (fun k => notb k.1), if_neg ?_]
                rintro ⟨-, k⟩
                rcases k with ⟨k1, k2⟩ | ⟨k1, k2⟩
                · have := (hP j (by omega)).mp k2
                  rw [if_pos this] at et0
                  omega
                · have : ¬ j < lo := fun z => k2 ((hP j (by omega)).mpr z)
                  rw [if_neg this] at et0
                  omega
            · rw [if_neg (fun k => cq k.2), hw1 l q hl hq]
              have : (∃ i, i < j + 1 ∧ od i = q) ↔ ∃ i, i < j ∧ od i = q := ⟨fun ⟨i, h1, h2⟩ => ⟨i, by
                by_cases c : i = j
                · rw [c] at h2; exact absurd h2.symm cq
                · omega, h2⟩, fun ⟨i, h1, h2⟩ => ⟨i, by omega, h2⟩⟩
              rw [itep (⟨fun k => ⟨this.mpr k.1, k.2⟩, fun k => ⟨this.mp k.1, k.2⟩⟩ : ((∃ i, i < j ∧ od i = q) ∧ ((l = a ∧ btr A V a b q) ∨ (l = b ∧ ¬ btr A V a b q))) ↔ ((∃ i, i < j + 1 ∧ od i = q) ∧ ((l = a ∧ btr A V a b q) ∨ (l = b ∧ ¬ btr A V a b q))))]
        by_cases c : lo ≤ j
        · rw [if_pos (nI_le c (by omega))]
          exact cell b lb (by rw [if_neg (by omega)])
        · rw [if_neg (nI_ge (by omega) (by omega))]
          exact cell a la (by rw [if_pos (by omega)])
  unfold f1_findTied_114
  refine key fuel0 0 S (by omega) (by unfold fuel0; omega) (fun _ _ => rfl) rfl (fun l q hl hq => ?_)
  rw [hw l q hl hq, if_neg (fun ⟨⟨i, hi, _⟩, _⟩ => by omega)]
  rfl
theorem p1_findTied (ho : 33 ≤ o) (D : dat 3 g A H Sh) (C : cW S o 3 g A H Sh) (hV : ∀ l, l < 3 → 0 < V l) (rV : rest 3 g (q2 A) (q1 H) (q1 Sh) V) {a b c : Nat} (p : perm3 a b c) {wn : Nat → Nat → Nat} (hw : ∀ l q, l < 3 → q < g → S.1 (29 + l) q = nI (wn l q)) : ∃ r S', f1_findTied o (nI a) (nI b) S = some (r, S') ∧ frm S S' o ∧ ((r = 1 ∧ ∃ W, cG S' (o + 7) 3 W ∧ restN 3 g A H Sh W) ∨ (r = 0 ∧ (∀ q, q < g → btr A V a b q ∨ btr A V b a q) ∧ ∀ l q, l < 3 → q < g → S'.1 (29 + l) q = nI (wup A V a b wn l q))) := by
  obtain ⟨la, lb, lc, nab, nac, nbc, h3⟩ := p.lt
  have d2 := D.2.1
  obtain ⟨S1, e1, o1, P1⟩ := p0_layTwo (o := 18) D C (by omega) la lb
  obtain ⟨S2, od, e2, b2, or2, sr⟩ := p0_sort P1
  have f2 : frm S S2 o := fun x h1 h2 h3 => ⟨(funext fun z => b2.2 x z (by omega) : S2.1 x = S1.1 x).trans (o1 x (by omega)).1, by rw [b2.1]; exact (o1 x (by omega)).2⟩
  have hw2 : ∀ l q, l < 3 → q < g → S2.1 (29 + l) q = nI (wn l q) := fun l q hl hq => by rw [b2.2 _ _ (by omega), (o1 (29 + l) (by omega)).1]; exact hw l q hl hq
  have bt3 : ∀ q, ¬ (btr A V a b q ∧ btr A V b a q) := fun q ⟨h1, h2⟩ => by unfold btr at h1 h2; grind
  have ex : ∀ (S3 : Zs) lo, lo ≤ g → frl S2 S3 o → (∀ i, i < lo → btr A V a b (od i)) → (∀ i, lo ≤ i → i < g → btr A V b a (od i)) → ∃ r S', f1_findTied_114 o (nI a) (nI b) (nI lo) S3 = some (r, S') ∧ frm S S' o ∧ ((r = 1 ∧ ∃ W, cG S' (o + 7) 3 W ∧ restN 3 g A H Sh W) ∨ (r = 0 ∧ (∀ q, q < g → btr A V a b q ∨ btr A V b a q) ∧ ∀ l q, l < 3 → q < g → S'.1 (29 + l) q = nI (wup A V a b wn l q))) := by
    intro S3 lo hlo hf h1 h2
    have C3 := cW_frm ho (by omega) C (f2.tr hf.frm)
    obtain ⟨S', q1, q2, q3, q4⟩ := p1_wins (S := S3) ho d2 p sr C3.2.1 (fun i hi => by rw [(hf 22 (by omega) (by omega) (by omega)).1]; exact or2 i hi) (wn := wn) (fun l q hl hq => by rw [(hf (29 + l) (by omega) (by omega) (by omega)).1]; exact hw2 l q hl hq) hlo h1 h2
    refine ⟨0, S', q1, (f2.tr hf.frm).tr (fun x x1 x2 x3 => ⟨q2 x (by omega), by rw [q3]⟩), Or.inr ⟨rfl, fun q hq => ?_, q4⟩⟩
    obtain ⟨i, hi, ei⟩ := srt_sur sr hq
    rw [← ei]
    by_cases c : i < lo
    · exact Or.inl (h1 i c)
    · exact Or.inr (h2 i (by omega) hi)
  have key : ∀ n rd lo hi (S3 : Zs), rd ≤ 6 → lo ≤ hi → hi ≤ g → hi - lo + rd ≤ 6 → 6 - rd < n → frl S2 S3 o → (∀ i, i < lo → btr A V a b (od i)) → (∀ i, hi ≤ i → i < g → btr A V b a (od i)) → ∃ r S', f1_findTied_29 o n (nI a) (nI b) (nI lo) (nI hi) (nI rd) S3 = some (r, S') ∧ frm S S' o ∧ ((r = 1 ∧ ∃ W, cG S' (o + 7) 3 W ∧ restN 3 g A H Sh W) ∨ (r = 0 ∧ (∀ q, q < g → btr A V a b q ∨ btr A V b a q) ∧ ∀ l q, l < 3 → q < g → S'.1 (29 + l) q = nI (wup A V a b wn l q))) := by
    intro n
    induction n with
    | zero => intro rd lo hi S3 h _ _ _ h2; omega
    | succ n ih =>
      intro rd lo hi S3 hr hlh hhg hsz hn2 hf h1 h2
      rw [f1_findTied_29]
      dsimp only
      by_cases c6 : 6 ≤ rd
      · rw [show (6 : Int32) = nI 6 from rfl, if_pos (nI_le c6 (by omega))]
        exact ex S3 lo (by omega) hf h1 (fun i hi hg => h2 i (by omega) hg)
      · rw [show (6 : Int32) = nI 6 from rfl, if_neg (nI_ge (by omega) (by omega))]
        by_cases c7 : hi ≤ lo
        · rw [if_pos (nI_le c7 (by omega))]
          exact ex S3 lo (by omega) hf h1 (fun i hi hg => h2 i (by omega) hg)
        · rw [if_neg (nI_ge (by omega) (by omega)), ltt, nI_add, pk_shrN (show lo + hi < 2 ^ 31 by omega) _ 1 (by decide), show (lo + hi) / 2 ^ 1 = (lo + hi) / 2 by rfl]
          obtain ⟨md, emd⟩ : ∃ md, md = (lo + hi) / 2 := ⟨_, rfl⟩
          rw [← emd]
          have m1 : lo ≤ md ∧ md < hi := by omega
          have oj := sr.1 md (by omega)
          have C3 := cW_frm ho (by omega) C (f2.tr hf.frm)
          obtain ⟨S4, W, q1, q2, q3, q4, q5, q6, q7⟩ := p1_tie ho D C3 p oj
          have f4 : frl S3 S4 o := fun x x1 x2 x3 => q2 x x1 x2
          have C4 := cW_frm ho (by omega) C3 f4.frm
          obtain ⟨r, S5, i1, i2, i3⟩ := p5_idleBy trivial D C4 q4
          have f5 : frl S4 S5 o := fun x x1 x2 x3 => ⟨funext fun z => i3.2 x z x3, by rw [i3.1]⟩
          have f25 := (hf.tr f4).tr f5
          rw [if_pos (inb_nI (by omega) (by decide)), nI_clamp (show md < 2 ^ 31 by omega), (hf (18 + 4) (by omega) (by omega) (by omega)).1, show S2.1 (18 + 4) md = nI (od md) from or2 md (by omega), q1, bd1s, i2, bd2s]
          by_cases r0 : r = 0
          · rw [r0, if_pos nI_0]
            rw [r0] at i1
            exact ⟨1, S5, rfl, f2.tr f25.frm, Or.inl ⟨rfl, W, cG_but q4 i3, idle_rest q5 i1⟩⟩
          · obtain ⟨r1, r2, r3, r4⟩ : 1 ≤ r ∧ r < 2 ^ 3 ∧ ¬ okN 3 g A H Sh W r ∧ ∀ t, 1 ≤ t → t < r → okN 3 g A H Sh W t := by
              rcases i1 with ⟨k, -⟩ | k
              · exact absurd k r0
              · exact k
            rw [if_neg (nI_ne0 r1 (by omega))]
            have df : r.testBit a ≠ r.testBit b := fun k => r3 (q7 r k)
            cases ra : r.testBit a with
            | false =>
              have rb : r.testBit b = true := by
                cases hb : r.testBit b
                · rw [ra, hb] at df; exact absurd rfl df
                · rfl
              have sd := tie_side D hV rV lb la oj q5 q6.symm (fun t ht => q7 t ht.symm) r3 rb ra
              rw [if_pos ((bt_at r (by omega) a la).mpr ra)]
              unfold f1_findTied_108
              rw [ltt, show nI rd + 1 = nI (rd + 1) from nI_1 _]
              refine ih (rd + 1) lo md S5 (by omega) (by omega) (by omega) (by omega) (by omega) f25 h1 (fun i hi hg => ?_)
              exact btr_up D hV la lb (sr.1 i hg) oj (srt_le sr (i := md) (j := i) hi hg) sd
            | true =>
              have rb : r.testBit b = false := by
                cases hb : r.testBit b
                · rfl
                · rw [ra, hb] at df; exact absurd rfl df
              have sd := tie_side D hV rV la lb oj q5 q6 q7 r3 ra rb
              rw [if_neg (fun k => by have := (bt_at r (by omega) a la).mp k; rw [ra] at this; cases this), ltt]
              unfold f1_findTied_108
              rw [ltt, show nI rd + 1 = nI (rd + 1) from nI_1 _, show nI md + 1 = nI (md + 1) from nI_1 _]
              refine ih (rd + 1) (md + 1) hi S5 (by omega) (by omega) (by omega) (by omega) (by omega) f25 (fun i hi => ?_) h2
              exact btr_dn D hV la lb (sr.1 i (by omega)) oj (srt_le sr (i := i) (j := md) (by omega) (by omega)) sd
  unfold f1_findTied
  have eg : S2.1 o 1 = nI g := (cW_frm ho (by omega) C f2).2.1
  rw [e1, bd1s, e2, bd1s, ltt, eg]
  exact key fuel0 0 0 g S2 (by omega) (by omega) (by omega) (by omega) (by unfold fuel0; omega) frl.rf (fun i h => by omega) (fun i h1 h2 => by omega)
end F1
