/-! as before but for the cells lo .. hi - 1 -/
def out (S S' : Zs) (lo hi : Nat) : Prop := ∀ a, (a < lo ∨ hi ≤ a) → S'.1 a = S.1 a ∧ S'.2 a = S.2 a
theorem out.rf {S : Zs} {lo hi : Nat} : out S S lo hi := fun _ _ => ⟨rfl, rfl⟩
theorem out.tr {S S' S'' : Zs} {lo hi : Nat} (h : out S S' lo hi) (h' : out S' S'' lo hi) : out S S'' lo hi := fun a ha => ⟨(h' a ha).1.trans (h a ha).1, (h' a ha).2.trans (h a ha).2⟩
theorem out.I {S : Zs} {lo hi k j : Nat} {v : Int32} (h : lo ≤ k ∧ k < hi) : out S (zI S k j v) lo hi := fun a ha => ⟨zI_1n S j v (by omega), rfl⟩
theorem out.L {S : Zs} {lo hi k j : Nat} {v : Int64} (h : lo ≤ k ∧ k < hi) : out S (zL S k j v) lo hi := fun a ha => ⟨rfl, zL_2n S j v (by omega)⟩
theorem out.of_but {S S' : Zs} {k : Nat} {lo hi : Nat} (h : but S S' k) (hk : lo ≤ k ∧ k < hi) : out S S' lo hi := fun a ha => ⟨funext fun b => h.2 a b (by omega), by rw [h.1]⟩
theorem out.wide {S S' : Zs} {lo hi lo' hi' : Nat} (h : out S S' lo hi) (h1 : lo' ≤ lo) (h2 : hi ≤ hi') : out S S' lo' hi' := fun a ha => h a (by omega)
theorem cW_out {S S' : Zs} {o m g lo hi : Nat} {A : Nat → Nat → Nat} {H Sh : Nat → Nat} (C : cW S o m g A H Sh) (hm : m ≤ 3) (h : out S S' lo hi) (k : o + 7 ≤ lo ∨ hi ≤ o) : cW S' o m g A H Sh :=
  ⟨by rw [(h o (by omega)).1]; exact C.1, by rw [(h o (by omega)).1]; exact C.2.1, fun q hq => by rw [(h (o + 1) (by omega)).1]; exact C.2.2.1 q hq, fun l hl => by rw [(h (o + 2) (by omega)).1]; exact C.2.2.2.1 l hl, fun l q hl hq => by rw [(h (o + 4 + l) (by omega)).1]; exact C.2.2.2.2 l q hl hq⟩
theorem cG_out {S S' : Zs} {w m lo hi : Nat} {W : Nat → Nat} (G : cG S w m W) (h : out S S' lo hi) (k : w < lo ∨ hi ≤ w) : cG S' w m W := fun l hl => by rw [(h w k).2]; exact G l hl
section PL
variable {S : Zs} {o q1 m g : Nat} {A : Nat → Nat → Nat} {H Sh : Nat → Nat}
theorem p0_layTwo (D : dat m g A H Sh) (C : cW S q1 m g A H Sh) (hdis : q1 + 9 ≤ o ∨ o + 5 ≤ q1) {a b : Nat} (ha : a < m) (hb : b < m) : ∃ S', f0_layTwo o q1 (nI a) (nI b) S = some S' ∧ out S S' o (o + 5) ∧ pD S' o g (fun q => A a q) (fun q => A b q) Sh (H a) (H b) := by
  have d1 := D.1
  have d2 := D.2.1
  have key : ∀ n j (S1 : Zs), j ≤ g → g - j < n → out S S1 o (o + 5) → S1.1 o 0 = nI g → S1.2 o 5 = lN (H a) → S1.2 o 6 = lN (H b) → (∀ q, q < j → S1.1 (o + 1) q = nI (Sh q) ∧ S1.2 (o + 2) q = lN (A a q) ∧ S1.2 (o + 3) q = lN (A b q)) → ∃ S', f0_layTwo_33 o q1 n (nI a) (nI b) (nI j) S1 = some S' ∧ out S S' o (o + 5) ∧ pD S' o g (fun q => A a q) (fun q => A b q) Sh (H a) (H b) := by
    intro n
    induction n with
    | zero => intro j S1 _ h; omega
    | succ n ih =>
      intro j S1 hj hn hB e0 e5 e6 hrow
      have C1 : cW S1 q1 m g A H Sh := cW_out C d1.2 hB (by omega)
      rw [f0_layTwo_33]
      dsimp only
      rw [e0]
      by_cases e : g ≤ j
      · rw [if_pos (nI_le e (by omega))]
        refine ⟨S1, rfl, hB, e0, d2, fun q hq => ⟨(hrow q (by omega)).1, D.2.2.2.1 q hq⟩, fun q hq => ⟨(hrow q (by omega)).2.1, ?_⟩, fun q hq => ⟨(hrow q (by omega)).2.2, D.2.2.2.2 b q hb hq⟩, ⟨e5, ?_⟩, ⟨e6, D.2.2.1 b hb⟩⟩
        · have := D.2.2.2.2 a q ha hq
          show 1 ≤ A a q ∧ A a q ≤ 400
          omega
        · have := D.2.2.1 a ha
          omega
      · have ba := D.2.2.2.2 a j ha (by omega)
        have bb := D.2.2.2.2 b j hb (by omega)
        rw [if_neg (nI_ge (by omega) (by omega)), if_pos (inb_nI (by omega) (by decide)), if_pos (inb_nI (by omega) (by decide)), ltt, if_pos (inb_nI (by omega) (by decide)), if_pos (inb_nI (by omega) (by decide)), if_pos (inb_nI (by omega) (by decide)), ltt, if_pos (inb_nI (by omega) (by decide)), if_pos (inb_nI (by omega) (by decide)), if_pos (inb_nI (by omega) (by decide)), ltt, ltt, nI_clamp (show j < 2 ^ 31 by omega), nI_clamp (show a < 2 ^ 31 by omega), nI_clamp (show b < 2 ^ 31 by omega), show nI j + 1 = nI (j + 1) from nI_1 _]
        rw [C1.2.2.1 j (by omega)]
        have r1 : (zI S1 (o + 1) j (nI (Sh j))).1 (q1 + 4 + a) j = nI (A a j) := by rw [zI_rd, if_neg (fun q => by omega)]; exact C1.2.2.2.2 a j ha (by omega)
        rw [r1, nI_l (by omega)]
        have r2 : (zL (zI S1 (o + 1) j (nI (Sh j))) (o + 2) j (lN (A a j))).1 (q1 + 4 + b) j = nI (A b j) := by rw [zL_1, zI_rd, if_neg (fun q => by omega)]; exact C1.2.2.2.2 b j hb (by omega)
        rw [r2, nI_l (by omega)]
        refine ih (j + 1) _ (by omega) (by omega) (((hB.tr (out.I (by omega))).tr (out.L (by omega))).tr (out.L (by omega))) ?_ ?_ ?_ (fun q hq => ⟨?_, ?_, ?_⟩)
        · rw [zL_1, zL_1, zI_rd, if_neg (fun q => by omega)]; exact e0
        · rw [zL_rd, if_neg (fun q => by omega), zL_rd, if_neg (fun q => by omega), zI_2]; exact e5
        · rw [zL_rd, if_neg (fun q => by omega), zL_rd, if_neg (fun q => by omega), zI_2]; exact e6
        · rw [zL_1, zL_1, zI_rd]
          by_cases c : q = j
          · rw [if_pos ⟨rfl, c⟩, c]
          · rw [if_neg (fun k => c k.2)]; exact (hrow q (by omega)).1
        · rw [zL_rd, if_neg (fun q => by omega), zL_rd, zI_2]
          by_cases c : q = j
          · rw [if_pos ⟨rfl, c⟩, c]
          · rw [if_neg (fun k => c k.2)]; exact (hrow q (by omega)).2.1
        · rw [zL_rd, zL_rd, zI_2]
          by_cases c : q = j
          · rw [if_pos ⟨rfl, c⟩, c]
          · rw [if_neg (fun k => c k.2), if_neg (fun k => by omega)]; exact (hrow q (by omega)).2.2
  have ba := D.2.2.1 a ha
  have bb := D.2.2.1 b hb
  unfold f0_layTwo
  rw [ltt, if_pos (inb_nI (by omega) (by decide)), ltt, if_pos (inb_nI (by omega) (by decide)), ltt, nI_clamp (show a < 2 ^ 31 by omega), nI_clamp (show b < 2 ^ 31 by omega), C.2.1]
  have r1 : (zI S o 0 (nI g)).1 (q1 + 2) a = nI (H a) := by rw [zI_rd, if_neg (fun q => by omega)]; exact C.2.2.2.1 a ha
  rw [r1, nI_l (by omega)]
  have r2 : (zL (zI S o 0 (nI g)) o 5 (lN (H a))).1 (q1 + 2) b = nI (H b) := by rw [zL_1, zI_rd, if_neg (fun q => by omega)]; exact C.2.2.2.1 b hb
  rw [r2, nI_l (by omega)]
  refine key fuel0 0 _ (by omega) (by unfold fuel0; omega) ((((out.rf).tr (out.I (by omega))).tr (out.L (by omega))).tr (out.L (by omega))) ?_ ?_ ?_ (fun q h => by omega)
  · rw [zL_1, zL_1, zI_rd, if_pos ⟨rfl, rfl⟩]
  · rw [zL_rd, if_neg (fun q => by omega), zL_rd, if_pos ⟨rfl, rfl⟩]
  · rw [zL_rd, if_pos ⟨rfl, rfl⟩]
theorem p0_layTied (D : dat m g A H Sh) (C : cW S q1 m g A H Sh) (hdis : q1 + 9 ≤ o ∨ o + 5 ≤ q1) {a b c wA wB : Nat} (ha : a < m) (hb : b < m) (hc : c < m) (hwA : 1 ≤ wA ∧ wA ≤ 20) (hwB : 1 ≤ wB ∧ wB ≤ 20) : ∃ S', f0_layTied o q1 (nI a) (lN wA) (nI b) (lN wB) (nI c) S = some S' ∧ out S S' o (o + 5) ∧ pD S' o g (fun q => if A b q * wB < A a q * wA then A b q * wB else A a q * wA) (fun q => A c q) Sh (H a * wA + H b * wB) (H c) := by
  have d1 := D.1
  have d2 := D.2.1
  have pr : ∀ l q, l < m → q < g → ∀ w, 1 ≤ w ∧ w ≤ 20 → 1 ≤ A l q * w ∧ A l q * w ≤ 400 := fun l q hl hq w hw => by
    have := D.2.2.2.2 l q hl hq
    exact ⟨Nat.mul_pos this.1 hw.1, Nat.mul_le_mul this.2 hw.2⟩
  have ph : ∀ l, l < m → ∀ w, 1 ≤ w ∧ w ≤ 20 → 1 ≤ H l * w ∧ H l * w ≤ 1980 := fun l hl w hw => by
    have := D.2.2.1 l hl
    exact ⟨Nat.mul_pos this.1 hw.1, Nat.mul_le_mul this.2 hw.2⟩
  have key : ∀ n j (S1 : Zs), j ≤ g → g - j < n → out S S1 o (o + 5) → S1.1 o 0 = nI g → S1.2 o 5 = lN (H a * wA + H b * wB) → S1.2 o 6 = lN (H c) → (∀ q, q < j → S1.1 (o + 1) q = nI (Sh q) ∧ S1.2 (o + 2) q = lN (if A b q * wB < A a q * wA then A b q * wB else A a q * wA) ∧ S1.2 (o + 3) q = lN (A c q)) → ∃ S', f0_layTied_48 o q1 n (nI a) (lN wA) (nI b) (lN wB) (nI c) (nI j) S1 = some S' ∧ out S S' o (o + 5) ∧ pD S' o g (fun q => if A b q * wB < A a q * wA then A b q * wB else A a q * wA) (fun q => A c q) Sh (H a * wA + H b * wB) (H c) := by
    intro n
    induction n with
    | zero => intro j S1 _ h; omega
    | succ n ih =>
      intro j S1 hj hn hB e0 e5 e6 hrow
      have C1 : cW S1 q1 m g A H Sh := cW_out C d1.2 hB (by omega)
      rw [f0_layTied_48]
      dsimp only
      rw [e0]
      by_cases e : g ≤ j
      · rw [if_pos (nI_le e (by omega))]
        refine ⟨S1, rfl, hB, e0, d2, fun q hq => ⟨(hrow q (by omega)).1, D.2.2.2.1 q hq⟩, fun q hq => ⟨(hrow q (by omega)).2.1, ?_⟩, fun q hq => ⟨(hrow q (by omega)).2.2, D.2.2.2.2 c q hc hq⟩, ⟨e5, ?_⟩, ⟨e6, D.2.2.1 c hc⟩⟩
        · have x1 := pr a q ha hq wA hwA
          have x2 := pr b q hb hq wB hwB
          dsimp only
          split
          · exact x2
          · exact x1
        · have x1 := ph a ha wA hwA
          have x2 := ph b hb wB hwB
          omega
      · have ba := D.2.2.2.2 a j ha (by omega)
        have bb := D.2.2.2.2 b j hb (by omega)
        have bc := D.2.2.2.2 c j hc (by omega)
        have x1 := pr a j ha (by omega) wA hwA
        have x2 := pr b j hb (by omega) wB hwB
        rw [if_neg (nI_ge (by omega) (by omega)), if_pos (inb_nI (by omega) (by decide)), if_pos (inb_nI (by omega) (by decide)), ltt, if_pos (inb_nI (by omega) (by decide)), if_pos (inb_nI (by omega) (by decide)), if_pos (inb_nI (by omega) (by decide)), if_pos (inb_nI (by omega) (by decide)), if_pos (inb_nI (by omega) (by decide)), ltt, if_pos (inb_nI (by omega) (by decide)), if_pos (inb_nI (by omega) (by decide)), if_pos (inb_nI (by omega) (by decide)), ltt, ltt, nI_clamp (show j < 2 ^ 31 by omega), nI_clamp (show a < 2 ^ 31 by omega), nI_clamp (show b < 2 ^ 31 by omega), nI_clamp (show c < 2 ^ 31 by omega), show nI j + 1 = nI (j + 1) from nI_1 _]
        rw [C1.2.2.1 j (by omega)]
        have r1 : (zI S1 (o + 1) j (nI (Sh j))).1 (q1 + 4 + a) j = nI (A a j) := by rw [zI_rd, if_neg (fun q => by omega)]; exact C1.2.2.2.2 a j ha (by omega)
        have r1b : (zI S1 (o + 1) j (nI (Sh j))).1 (q1 + 4 + b) j = nI (A b j) := by rw [zI_rd, if_neg (fun q => by omega)]; exact C1.2.2.2.2 b j hb (by omega)
        rw [r1, r1b, nI_l (show A a j < 2 ^ 31 by omega), nI_l (show A b j < 2 ^ 31 by omega), lN_mul, lN_mul]
        have emin : (if lN (A b j * wB) < lN (A a j * wA) then lN (A b j * wB) else lN (A a j * wA)) = lN (if A b j * wB < A a j * wA then A b j * wB else A a j * wA) := by
          by_cases cc : A b j * wB < A a j * wA
          · rw [if_pos cc, if_pos ((pk_lLT (by omega) (by omega)).mpr cc)]
          · rw [if_neg cc, if_neg (fun k => cc ((pk_lLT (by omega) (by omega)).mp k))]
        rw [emin]
        generalize hmn : (if A b j * wB < A a j * wA then A b j * wB else A a j * wA) = mn
        have r2 : (zL (zI S1 (o + 1) j (nI (Sh j))) (o + 2) j (lN mn)).1 (q1 + 4 + c) j = nI (A c j) := by rw [zL_1, zI_rd, if_neg (fun q => by omega)]; exact C1.2.2.2.2 c j hc (by omega)
        rw [r2, nI_l (by omega)]
        refine ih (j + 1) _ (by omega) (by omega) (((hB.tr (out.I (by omega))).tr (out.L (by omega))).tr (out.L (by omega))) ?_ ?_ ?_ (fun q hq => ⟨?_, ?_, ?_⟩)
        · rw [zL_1, zL_1, zI_rd, if_neg (fun q => by omega)]; exact e0
        · rw [zL_rd, if_neg (fun q => by omega), zL_rd, if_neg (fun q => by omega), zI_2]; exact e5
        · rw [zL_rd, if_neg (fun q => by omega), zL_rd, if_neg (fun q => by omega), zI_2]; exact e6
        · rw [zL_1, zL_1, zI_rd]
          by_cases c : q = j
          · rw [if_pos ⟨rfl, c⟩, c]
          · rw [if_neg (fun k => c k.2)]; exact (hrow q (by omega)).1
        · rw [zL_rd, if_neg (fun q => by omega), zL_rd, zI_2]
          by_cases c : q = j
          · rw [if_pos ⟨rfl, c⟩, c, hmn]
          · rw [if_neg (fun k => c k.2)]; exact (hrow q (by omega)).2.1
        · rw [zL_rd, zL_rd, zI_2]
          by_cases c : q = j
          · rw [if_pos ⟨rfl, c⟩, c]
          · rw [if_neg (fun k => c k.2), if_neg (fun k => by omega)]; exact (hrow q (by omega)).2.2
  have ba := D.2.2.1 a ha
  have bb := D.2.2.1 b hb
  have bc := D.2.2.1 c hc
  unfold f0_layTied
  rw [ltt, if_pos (inb_nI (by omega) (by decide)), if_pos (inb_nI (by omega) (by decide)), ltt, if_pos (inb_nI (by omega) (by decide)), ltt, nI_clamp (show a < 2 ^ 31 by omega), nI_clamp (show b < 2 ^ 31 by omega), nI_clamp (show c < 2 ^ 31 by omega), C.2.1]
  have r1 : (zI S o 0 (nI g)).1 (q1 + 2) a = nI (H a) := by rw [zI_rd, if_neg (fun q => by omega)]; exact C.2.2.2.1 a ha
  have r1b : (zI S o 0 (nI g)).1 (q1 + 2) b = nI (H b) := by rw [zI_rd, if_neg (fun q => by omega)]; exact C.2.2.2.1 b hb
  rw [r1, r1b, nI_l (show H a < 2 ^ 31 by omega), nI_l (show H b < 2 ^ 31 by omega), lN_mul, lN_mul, lN_add]
  have r2 : (zL (zI S o 0 (nI g)) o 5 (lN (H a * wA + H b * wB))).1 (q1 + 2) c = nI (H c) := by rw [zL_1, zI_rd, if_neg (fun q => by omega)]; exact C.2.2.2.1 c hc
  rw [r2, nI_l (by omega)]
  refine key fuel0 0 _ (by omega) (by unfold fuel0; omega) ((((out.rf).tr (out.I (by omega))).tr (out.L (by omega))).tr (out.L (by omega))) ?_ ?_ ?_ (fun q h => by omega)
  · rw [zL_1, zL_1, zI_rd, if_pos ⟨rfl, rfl⟩]
  · rw [zL_rd, if_neg (fun q => by omega), zL_rd, if_pos ⟨rfl, rfl⟩]
  · rw [zL_rd, if_pos ⟨rfl, rfl⟩]
end PL
