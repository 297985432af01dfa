/-! feed -/
section FD
variable {C M C' M' S S' : Zs}
theorem iW_fr2 (h : iW C M) (c1 : C'.1 0 10 = C.1 0 10) (c2 : sameW C C' 46) (c3 : sameW C C' 37) (m0 : ∀ b, b = 5 ∨ b = 6 ∨ b = 25 ∨ b = 29 → M'.1 0 b = M.1 0 b) (m1 : ∀ a, 4 ≤ a → a ≤ 6 → M'.1 a = M.1 a) (m2 : ∀ a, 14 ≤ a → a ≤ 16 → M'.2 a = M.2 a) : iW C' M' := by
  rcases h with ⟨h1, h2, h3, h4, h5, h6, h7⟩ | ⟨m, g, A, H, Sh, W, h⟩
  · left
    refine ⟨by rw [c3.1 37 (by omega) (by omega)]; exact h1, by rw [c3.1 37 (by omega) (by omega)]; exact h2, by rw [m0 5 (by omega)]; exact h3, by rw [m0 6 (by omega)]; exact h4, by rw [c1]; exact h5, by rw [m0 25 (by omega)]; exact h6, by rw [m0 29 (by omega)]; exact h7⟩
  · right
    obtain ⟨h1, h2, h3, h4, h5, h6, h7⟩ := h
    refine ⟨m, g, A, H, Sh, W, h1, cW_same h2 h1.1.2 c3, cG_same (o := 37) h3 c3, h4, mW_fr2 h5 (m0 5 (by omega)) (m0 6 (by omega)) m1, ?_, iH_fr h7 c1 c2 (m0 25 (by omega)) (m2 15 (by omega) (by omega)) (m2 16 (by omega) (by omega))⟩
    rcases h6 with z | ⟨z, R, x1, x2⟩
    · left; rw [m0 29 (by omega)]; exact z
    · right; rw [m0 29 (by omega)]; exact ⟨z, R, fun l hl => by rw [m2 14 (by omega) (by omega)]; exact x1 l hl, x2⟩
/-- the tape and the reader change, no more -/
theorem II_tape (h : II C M) (hT : iT C' M') (c1 : ∀ a, a ≠ 13 → a ≠ 14 → (a < 55 ∨ 62 ≤ a) → C'.1 a = C.1 a) (c2 : C'.2 = C.2) (m0 : ∀ b, b = 1 ∨ b = 5 ∨ b = 6 ∨ b = 25 ∨ b = 29 ∨ b = 36 → M'.1 0 b = M.1 0 b) (m1 : ∀ a, a ≠ 0 → a ≠ 7 → a ≠ 8 → a ≠ 9 → a ≠ 10 → M'.1 a = M.1 a) (m2 : M'.2 = M.2) : II C' M' := by
  obtain ⟨h1, h2, h3, h4, h5⟩ := h
  exact ⟨iR_fr h1 (fun a x1 x2 => c1 a (by omega) (by omega) (by omega)) (fun a x1 x2 => m1 a (by omega) (by omega) (by omega) (by omega) (by omega)), hT, iW_fr2 h3 (by rw [c1 0 (by decide) (by decide) (by omega)]) ⟨fun a x1 x2 => c1 a (by omega) (by omega) (by omega), by rw [c2]⟩ ⟨fun a x1 x2 => c1 a (by omega) (by omega) (by omega), by rw [c2]⟩ (fun b x => m0 b (by omega)) (fun a x1 x2 => m1 a (by omega) (by omega) (by omega) (by omega) (by omega)) (fun a x1 x2 => by rw [m2]), iX_fr h4 (by rw [c1 15 (by decide) (by decide) (by omega)]) (c1 16 (by decide) (by decide) (by omega)) (m0 _ (by omega)) (m1 17 (by decide) (by decide) (by decide) (by decide) (by decide)), iS_fr h5 (by rw [c1 0 (by decide) (by decide) (by omega)]) (m0 _ (by omega))⟩
theorem fd_s1 : ∀ k, k < 8 → ((((8 : Int32) * nI k).toInt64.toUInt64 &&& Int64.toUInt64 63).toBitVec % 64).toNat = 8 * k := by decide +kernel
theorem fd_s2 : ∀ k, k < 8 → ((((8 : Int32) * nI k).toInt64 &&& (63 : Int64)).toBitVec.smod 64).toNat = 8 * k := by decide +kernel
theorem fd_255 : ∀ i, i < 8 → (255 : Int64).toBitVec.getLsbD i = true := by decide +kernel
theorem fd_byte (x : Int64) {k : Nat} (hk : k < 8) : ∃ v, v < 256 ∧ ((x >>> (((8 : Int32) * nI k).toInt64 &&& 63)) &&& (255 : Int64)).toInt32 = nI v ∧ ((((x.toUInt64 >>> (((8 : Int32) * nI k).toInt64.toUInt64 &&& Int64.toUInt64 63)).toInt64).toInt32).toInt8.toInt32).toInt8.toInt32 = (nI v).toInt8.toInt32 := by
  have vlt : ((x >>> (((8 : Int32) * nI k).toInt64 &&& 63)) &&& (255 : Int64)).toBitVec.toNat < 256 := by
    rw [Int64.toBitVec_and, BitVec.toNat_and]
    exact Nat.lt_of_le_of_lt Nat.and_le_right (by decide)
  have e1 : ((x >>> (((8 : Int32) * nI k).toInt64 &&& 63)) &&& (255 : Int64)).toInt32 = nI ((x >>> (((8 : Int32) * nI k).toInt64 &&& 63)) &&& (255 : Int64)).toBitVec.toNat := by
    apply Int32.toBitVec_inj.mp
    apply BitVec.eq_of_toNat_eq
    rw [Int64.toBitVec_toInt32, BitVec.signExtend_eq_setWidth_of_le _ (by decide), BitVec.toNat_setWidth]
    show _ = (BitVec.ofNat 32 _).toNat
    rw [BitVec.toNat_ofNat]
  refine ⟨_, vlt, e1, ?_⟩
  rw [← e1, Int8.toInt8_toInt32, Int64.toInt8_toInt32, Int64.toInt8_toInt32]
  refine congrArg Int8.toInt32 ?_
  apply Int8.toBitVec_inj.mp
  apply BitVec.eq_of_getLsbD_eq
  intro i hi
  have eA : (x.toUInt64 >>> (((8 : Int32) * nI k).toInt64.toUInt64 &&& Int64.toUInt64 63)).toInt64.toBitVec = x.toBitVec >>> (8 * k) := by
    rw [← fd_s1 k hk]
    exact UInt64.toBitVec_shiftRight _ _
  have eB : (x >>> (((8 : Int32) * nI k).toInt64 &&& 63)).toBitVec = x.toBitVec.sshiftRight (8 * k) := by
    show x.toBitVec.sshiftRight ((((8 : Int32) * nI k).toInt64 &&& (63 : Int64)).toBitVec.smod 64).toNat = _
    rw [fd_s2 k hk]
  rw [Int64.toBitVec_toInt8, Int64.toBitVec_toInt8, BitVec.getLsbD_signExtend, BitVec.getLsbD_signExtend, if_pos (by omega), if_pos (by omega), eA, Int64.toBitVec_and, BitVec.getLsbD_and, fd_255 i hi, Bool.and_true, eB, BitVec.getLsbD_ushiftRight, BitVec.getLsbD_sshiftRight, if_pos (by omega), decide_eq_false (show ¬ 64 ≤ i by omega)]
  rfl
theorem feed_loop (x : Int64) : ∀ t n L (C M : Zs), t ≤ 8 → t < n → L + t ≤ 400 → C.1 13 1 = nI L → II C M → ∃ r C' M', f3_append_5 n x (nI t - 1) C = some (r, C') ∧ f7_feed_42 n x (nI t - 1) M = some (r.toInt64, M') ∧ II C' M' := by
  intro t
  induction t with
  | zero =>
    intro n L C M _ hn _ eL h
    obtain ⟨n, rfl⟩ : ∃ k, n = k + 1 := ⟨n - 1, by omega⟩
    rw [f3_append_5, f7_feed_42]
    dsimp only
    rw [if_pos (by decide), if_pos (by decide)]
    unfold f3_append_54
    obtain ⟨N, h1, h2, h3, h4, h5⟩ := h.2.1
    exact ⟨C.1 13 1, C, M, rfl, by rw [h3, h2], h⟩
  | succ t ih =>
    intro n L C M ht hn hL eL h
    obtain ⟨n, rfl⟩ : ∃ k, n = k + 1 := ⟨n - 1, by omega⟩
    obtain ⟨N, h1, h2, h3, h4, h5⟩ := h.2.1
    have eN : N = L := by
      rw [eL] at h2
      exact ((nI_eq (by omega) (by omega)).mp h2).symm
    subst eN
    obtain ⟨v, v1, v2, v3⟩ := fd_byte x (k := t) (by omega)
    rw [f3_append_5, f7_feed_42]
    dsimp only
    rw [nI_pred, if_neg (nI_pos (by omega)), if_neg (nI_pos (by omega)), h2, h3, show (400 : Int32) = nI 400 from rfl, if_neg (nI_ge (by omega) (by omega)), if_pos (inb_nI (by omega) (by decide)), if_pos (inb_nI (by omega) (by decide)), nI_clamp (by omega), ltt, ltt, ltt, ltt, ltt, ltt, v2, v3, zI_1n _ _ _ (show 13 ≠ 14 by decide), zI_1n _ _ _ (show 0 ≠ 10 by decide), h2, h3, show nI N + 1 = nI (N + 1) from nI_1 _, ← Int32.sub_eq_add_neg]
    refine ih n (N + 1) _ _ (by omega) (by omega) (by omega) (by rw [zI_rd, if_pos ⟨rfl, rfl⟩]) ?_
    refine II_tape h ⟨N + 1, by omega, by rw [zI_rd, if_pos ⟨rfl, rfl⟩], by rw [zI_rd, if_pos ⟨rfl, rfl⟩], by rw [zI_rd, if_neg (by decide), zI_1n _ _ _ (by decide), zI_rd, if_neg (by decide), zI_1n _ _ _ (by decide)]; exact h4, fun k hk => ?_⟩ (fun a e1 e2 _ => by rw [zI_1n _ _ _ e1, zI_1n _ _ _ e2]) rfl (fun b hb => by rw [zI_rd, if_neg (by omega), zI_1n _ _ _ (by decide)]) (fun a e0 _ _ _ e1 => by rw [zI_1n _ _ _ e0, zI_1n _ _ _ e1]) rfl
    rw [zI_1n _ _ _ (show 10 ≠ 0 by decide), zI_1n _ _ _ (show 14 ≠ 13 by decide), zI_rd, zI_rd]
    by_cases c : k = N
    · rw [if_pos ⟨rfl, c⟩, if_pos ⟨rfl, c⟩]
      exact ⟨v, v1, rfl, rfl⟩
    · rw [if_neg (fun z => c z.2), if_neg (fun z => c z.2)]
      exact h5 k (by omega)
theorem s_feed (h : II C M) (x : Int64) (y : Int32) : ∃ (r : Int64) (C' M' : Zs), (f6_feed x y C = some (r, C')) ∧ (f7_feed x y M = some (r, M')) ∧ II C' M' := by
  have h2 := II_t0 h
  unfold f7_feed f6_feed
  rw [ltt]
  generalize zI M 0 0 0 = M2 at h2 ⊢
  rw [show (1 : Int64) = (1 : Int32).toInt64 from rfl, show (8 : Int64) = (8 : Int32).toInt64 from rfl, inI]
  by_cases c1 : y < 1
  · rw [if_pos c1, if_pos c1, if_pos rfl]
    exact ⟨_, C, M2, rfl, rfl, h2⟩
  rw [if_neg c1, if_neg c1]
  by_cases c2 : 8 < y
  · rw [if_pos c2, if_pos rfl, if_neg (fun k => (i32lt _ _).mpr c2 k)]
    exact ⟨_, C, M2, rfl, rfl, h2⟩
  have c2' : y ≤ 8 := (i32le _ _).mp c2
  have c0 : ¬ y < 0 := by
    rw [Int32.lt_iff_toInt_lt] at c1 ⊢
    have e1 : (0 : Int32).toInt = 0 := rfl
    have e2 : (1 : Int32).toInt = 1 := rfl
    omega
  obtain ⟨w, hw, rfl⟩ := i32_01 c0 (n := 8) (by decide) c2'
  rw [if_neg c2, if_neg i10, if_pos c2']
  obtain ⟨N, n1, n2, n3, n4, n5⟩ := h2.2.1
  unfold f3_hasRoom f3_append
  rw [n2, n3, nI_add, show (400 : Int32) = nI 400 from rfl, iNlt (by omega) (by omega), iNle (by omega) (by omega)]
  by_cases c3 : 400 < N + w
  · rw [if_pos c3, if_pos rfl, if_neg (show ¬ N + w ≤ 400 by omega)]
    exact ⟨_, C, M2, rfl, rfl, h2⟩
  rw [if_neg c3, if_neg i10, if_pos (show N + w ≤ 400 by omega), ltt, ltt]
  obtain ⟨r, C', M', a1, a2, a3⟩ := feed_loop x w fuel0 N C M2 hw (by unfold fuel0; omega) (by omega) n2 h2
  rw [a1, a2, bd2s]
  exact ⟨_, C', M', rfl, rfl, a3⟩
end FD
