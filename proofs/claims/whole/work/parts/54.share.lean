/-! the case of the law: the share of a client -/
theorem x_bits_loop {E t : Nat} (h1 : 2 ≤ E) (hE : E ≤ 127) (ht : t < 8388608) {x0 : UInt32} {K : Int32 → Prop} (k : K (nI (E * 8388608 + t))) : ∀ (n e : Nat), e + n = 128 → E ≤ e → e ≤ 127 → wpl_X8_bitsOfShare_13 K n x0 (f9_nf e t) (nI (127 + E - e)) := by
  intro n
  induction n with
  | zero => intro e a b c; omega
  | succ n ih =>
    intro e a b c
    rw [wpl_X8_bitsOfShare_13, show (1258291200 : UInt32) = f9_nf 150 0 by decide, show (0x40000000 : UInt32) = f9_nf 128 0 by decide]
    refine ⟨fun x => absurd x (by rw [show (1 : Int32) = nI 1 from rfl, nI_leI (by omega) (by decide)]; omega), fun _ => ?_⟩
    rcases Nat.lt_or_ge e 127 with q | q
    · rw [f9_cmp_lt (by omega) q ht, f9_fmul_at (E := e) (F := 128) (by omega) (by omega) (by decide) (by decide) ht (by omega) (by omega), show e + 128 - 127 = e + 1 by omega]
      refine ⟨fun x => absurd x (by decide), fun _ => ⟨f9_no_nan (by omega) ht, ?_⟩⟩
      rw [show 127 + E - e = (127 + E - (e + 1)) + 1 by omega, pk_m1]
      exact ih (e + 1) (by omega) (by omega) (by omega)
    · have : e = 127 := by omega
      subst this
      rw [f9_fmul_at (E := 127) (F := 150) (by decide) (by decide) (by decide) (by decide) ht (by decide) (by decide), show 127 + 150 - 127 = 150 by decide, f9_f2i_at ht, show 127 + E - 127 = E by omega, show (8388608 : Int32) = nI 8388608 from rfl, pk_sub (by omega), pk_mul, nI_add, show 8388608 + t - 8388608 = t by omega]
      refine ⟨fun _ => ⟨f9_no_nan (by decide) ht, k⟩, fun x => absurd ?_ x⟩
      rcases f9_cmp_ge ht with h | h
      · rw [h]; decide
      · rw [h]; decide
theorem x_bits {E t : Nat} (h1 : 2 ≤ E) (hE : E ≤ 127) (ht : t < 8388608) {K : Int32 → Prop} (k : K (nI (E * 8388608 + t))) : wp_X8_bitsOfShare (f9_nf E t) K := by
  rw [wp_X8_bitsOfShare, f9_cmp_zero (by omega) (by omega) ht]
  refine ⟨fun _ => ⟨128 - E, ?_⟩, fun x => absurd (by decide) x⟩
  have := x_bits_loop h1 hE ht (x0 := f9_nf E t) k (128 - E) E (by omega) (by omega) hE
  rw [show 127 + E - E = 127 by omega] at this
  exact this
theorem share_at {a T : Nat} (ha : 0 < a) (haT : a ≤ T) (hT : T < 8192) : ∃ k, k ≤ 13 ∧ T ≤ a * 2 ^ k ∧ (∀ j, j < k → a * 2 ^ j < T) ∧ 8388608 ≤ FP.Core.nearest (a * 2 ^ k * 8388608) T ∧ FP.Core.nearest (a * 2 ^ k * 8388608) T ≤ 16777216 ∧ FP.fdiv (FP.i2f (nI a)) (FP.i2f (nI T)) = (if FP.Core.nearest (a * 2 ^ k * 8388608) T < 16777216 then f9_nf (127 - k) (FP.Core.nearest (a * 2 ^ k * 8388608) T - 8388608) else f9_nf (127 - k + 1) 0) := by
  have la1 : 2 ^ a.log2 ≤ a := Nat.log2_self_le (by omega)
  have la2 : a < 2 ^ (a.log2 + 1) := Nat.lt_log2_self
  have lT1 : 2 ^ T.log2 ≤ T := Nat.log2_self_le (by omega)
  have lT2 : T < 2 ^ (T.log2 + 1) := Nat.lt_log2_self
  generalize a.log2 = la at la1 la2
  generalize T.log2 = lT at lT1 lT2
  have hlT : lT < 13 := (Nat.pow_lt_pow_iff_right (by decide : 1 < 2)).mp (Nat.lt_of_le_of_lt lT1 (show T < 2 ^ 13 from hT))
  have hll : la ≤ lT := Nat.le_of_lt_succ ((Nat.pow_lt_pow_iff_right (by decide : 1 < 2)).mp (Nat.lt_of_le_of_lt la1 (Nat.lt_of_le_of_lt haT lT2)))
  have m1 := f9_i2f_at la1 la2 (by omega)
  have m2 := f9_i2f_at lT1 lT2 (by omega)
  -- the two significands
  have e23a : 2 ^ la * 2 ^ (23 - la) = 8388608 := by rw [← Nat.pow_add, show la + (23 - la) = 23 by omega]
  have e24a : 2 ^ (la + 1) * 2 ^ (23 - la) = 16777216 := by rw [← Nat.pow_add, show la + 1 + (23 - la) = 24 by omega]
  have e23T : 2 ^ lT * 2 ^ (23 - lT) = 8388608 := by rw [← Nat.pow_add, show lT + (23 - lT) = 23 by omega]
  have e24T : 2 ^ (lT + 1) * 2 ^ (23 - lT) = 16777216 := by rw [← Nat.pow_add, show lT + 1 + (23 - lT) = 24 by omega]
  have b1 : 8388608 ≤ a * 2 ^ (23 - la) := by rw [← e23a]; exact Nat.mul_le_mul_right _ la1
  have b2 : a * 2 ^ (23 - la) < 16777216 := by rw [← e24a]; exact (Nat.mul_lt_mul_right (Nat.two_pow_pos _)).mpr la2
  have b3 : 8388608 ≤ T * 2 ^ (23 - lT) := by rw [← e23T]; exact Nat.mul_le_mul_right _ lT1
  have b4 : T * 2 ^ (23 - lT) < 16777216 := by rw [← e24T]; exact (Nat.mul_lt_mul_right (Nat.two_pow_pos _)).mpr lT2
  have ec : a * 2 ^ (23 - la) = a * 2 ^ (lT - la) * 2 ^ (23 - lT) := by
    rw [Nat.mul_assoc, ← Nat.pow_add, show lT - la + (23 - lT) = 23 - la by omega]
  have s1 : 8388608 + (a * 2 ^ (23 - la) - 8388608) = a * 2 ^ (23 - la) := Nat.add_sub_of_le b1
  have s2 : 8388608 + (T * 2 ^ (23 - lT) - 8388608) = T * 2 ^ (23 - lT) := Nat.add_sub_of_le b3
  have hpp := Nat.two_pow_pos (23 - lT)
  by_cases hc : T * 2 ^ (23 - lT) ≤ a * 2 ^ (23 - la)
  · have hk : T ≤ a * 2 ^ (lT - la) := by
      rw [ec] at hc
      exact Nat.le_of_mul_le_mul_right hc hpp
    have hN : FP.Core.nearest (a * 2 ^ (lT - la) * 8388608) T = FP.Core.nearest (a * 2 ^ (23 - la) * 8388608) (T * 2 ^ (23 - lT)) := by
      rw [ec, Nat.mul_right_comm _ (2 ^ (23 - lT)) 8388608, f9_near_both _ _ _ hpp]
    have := f9_fdiv_at (E := 127 + la) (F := 127 + lT) (t := a * 2 ^ (23 - la) - 8388608) (u := T * 2 ^ (23 - lT) - 8388608) (by omega) (by omega) (by omega) (by omega) (by omega) (by omega) (G := 127 - (lT - la)) (N := FP.Core.nearest (a * 2 ^ (lT - la) * 8388608) T) (by omega) (by omega) (Or.inl ⟨by rw [s1, s2]; exact hc, by omega, by rw [s1, s2]; exact hN⟩)
    refine ⟨lT - la, by omega, hk, fun j hj => ?_, this.1, this.2.1, ?_⟩
    · have x1 : a * 2 ^ j < 2 ^ (la + 1) * 2 ^ j := (Nat.mul_lt_mul_right (Nat.two_pow_pos _)).mpr la2
      rw [← Nat.pow_add] at x1
      have x2 : 2 ^ (la + 1 + j) ≤ 2 ^ lT := Nat.pow_le_pow_right (by decide) (by omega)
      omega
    · rw [m1, m2]; exact this.2.2
  · have hk0 : a * 2 ^ (lT - la) < T := by
      rw [ec] at hc
      exact Nat.lt_of_mul_lt_mul_right (Nat.lt_of_not_le hc)
    have hN : FP.Core.nearest (a * 2 ^ (lT - la + 1) * 8388608) T = FP.Core.nearest (a * 2 ^ (23 - la) * 16777216) (T * 2 ^ (23 - lT)) := by
      have : a * 2 ^ (23 - la) * 16777216 = a * 2 ^ (lT - la + 1) * 8388608 * 2 ^ (23 - lT) := by
        rw [ec, Nat.pow_succ]
        generalize 2 ^ (lT - la) = x
        generalize 2 ^ (23 - lT) = y
        rw [show (16777216 : Nat) = 2 * 8388608 by decide, ← Nat.mul_assoc a x 2]
        generalize a * x = w
        ac_rfl
      rw [this, f9_near_both _ _ _ hpp]
    have := f9_fdiv_at (E := 127 + la) (F := 127 + lT) (t := a * 2 ^ (23 - la) - 8388608) (u := T * 2 ^ (23 - lT) - 8388608) (by omega) (by omega) (by omega) (by omega) (by omega) (by omega) (G := 127 - (lT - la + 1)) (N := FP.Core.nearest (a * 2 ^ (lT - la + 1) * 8388608) T) (by omega) (by omega) (Or.inr ⟨by rw [s1, s2]; omega, by omega, by rw [s1, s2]; exact hN⟩)
    refine ⟨lT - la + 1, by omega, ?_, fun j hj => ?_, this.1, this.2.1, ?_⟩
    · have x1 : 2 ^ la * 2 ^ (lT - la + 1) ≤ a * 2 ^ (lT - la + 1) := Nat.mul_le_mul_right _ la1
      rw [← Nat.pow_add, show la + (lT - la + 1) = lT + 1 by omega] at x1
      omega
    · have x1 : a * 2 ^ j ≤ a * 2 ^ (lT - la) := Nat.mul_le_mul_left _ (Nat.pow_le_pow_right (by decide) (by omega))
      omega
    · rw [m1, m2]; exact this.2.2
theorem share_zero {T : Nat} (hT0 : 0 < T) (hT : T < 8192) : FP.fdiv (FP.i2f (nI 0)) (FP.i2f (nI T)) = 0 := by
  have lT1 : 2 ^ T.log2 ≤ T := Nat.log2_self_le (by omega)
  have lT2 : T < 2 ^ (T.log2 + 1) := Nat.lt_log2_self
  generalize T.log2 = lT at lT1 lT2
  have hlT : lT < 13 := (Nat.pow_lt_pow_iff_right (by decide : 1 < 2)).mp (Nat.lt_of_le_of_lt lT1 (show T < 2 ^ 13 from hT))
  have e23T : 2 ^ lT * 2 ^ (23 - lT) = 8388608 := by rw [← Nat.pow_add, show lT + (23 - lT) = 23 by omega]
  have e24T : 2 ^ (lT + 1) * 2 ^ (23 - lT) = 16777216 := by rw [← Nat.pow_add, show lT + 1 + (23 - lT) = 24 by omega]
  have b3 : 8388608 ≤ T * 2 ^ (23 - lT) := by rw [← e23T]; exact Nat.mul_le_mul_right _ lT1
  have b4 : T * 2 ^ (23 - lT) < 16777216 := by rw [← e24T]; exact (Nat.mul_lt_mul_right (Nat.two_pow_pos _)).mpr lT2
  rw [f9_i2f_at lT1 lT2 (by omega)]
  show UInt32.ofNat (FP.Core.div FP.Core.b32 (FP.i2f (nI 0)).toNat (f9_nf (127 + lT) (T * 2 ^ (23 - lT) - 8388608)).toNat) = 0
  have e0 : FP.Core.decode FP.Core.b32 (FP.i2f (nI 0)).toNat = .fin false 0 (-149) := by decide
  unfold FP.Core.div
  rw [e0, f9_dec (by omega) (by omega) (by omega)]
  unfold FP.Core.quotient FP.Core.roundRatio
  simp only
  rw [if_neg (by omega), if_pos trivial]
  decide
theorem lgc_val {A B : Nat} (hA : A < 2 ^ 63) (hB : B < 2 ^ 63) : (B < A → lg_cmp (lN A) (lN B) = 1) ∧ (A = B → lg_cmp (lN A) (lN B) = 0) ∧ (A < B → lg_cmp (lN A) (lN B) = -1) := by
  refine ⟨fun h => ?_, fun h => ?_, fun h => ?_⟩
  · unfold lg_cmp
    exact if_pos ((pk_lLT hB hA).mpr h)
  · exact (lcmp0 _ _).mpr ((pk_lEQ hA hB).mpr h)
  · unfold lg_cmp
    rw [if_neg (fun x => by have := (pk_lLT hB hA).mp x; omega), if_neg (fun x => by have := (pk_lEQ hA hB).mp x; omega)]
theorem lgc_ge {A B : Nat} (hA : A < 2 ^ 63) (hB : B < 2 ^ 63) : 0 ≤ lg_cmp (lN A) (lN B) ↔ B ≤ A := by
  obtain ⟨v1, v2, v3⟩ := lgc_val hA hB
  rcases Nat.lt_trichotomy B A with h | h | h
  · rw [v1 h]; exact ⟨fun _ => by omega, fun _ => by decide⟩
  · rw [v2 h.symm]; exact ⟨fun _ => by omega, fun _ => by decide⟩
  · rw [v3 h]; exact ⟨fun x => absurd x (by decide), fun x => by omega⟩
theorem lgc_gt {A B : Nat} (hA : A < 2 ^ 63) (hB : B < 2 ^ 63) : 0 < lg_cmp (lN A) (lN B) ↔ B < A := by
  obtain ⟨v1, v2, v3⟩ := lgc_val hA hB
  rcases Nat.lt_trichotomy B A with h | h | h
  · rw [v1 h]; exact ⟨fun _ => h, fun _ => by decide⟩
  · rw [v2 h.symm]; exact ⟨fun x => absurd x (by decide), fun x => by omega⟩
  · rw [v3 h]; exact ⟨fun x => absurd x (by decide), fun x => by omega⟩
theorem lN_tn {m : Nat} (h : m < 2 ^ 64) : (lN m).toBitVec.toNat = m := Nat.mod_eq_of_lt h
theorem shl_by (a s : Int64) (k : Nat) (hs : (s.toBitVec.smod 64).toNat = k) : (a <<< s).toBitVec.toNat = a.toBitVec.toNat * 2 ^ k % 2 ^ 64 := by
  show (a.toBitVec <<< (s.toBitVec.smod 64).toNat).toNat = _
  rw [hs, BitVec.toNat_shiftLeft, Nat.shiftLeft_eq]
theorem shl23 {n : Nat} (h : n < 2 ^ 40) : lN n <<< (Int32.toInt64 23 &&& 63) = lN (n * 8388608) := by
  apply Int64.toBitVec_inj.mp
  apply BitVec.eq_of_toNat_eq
  rw [shl_by _ _ 23 (by decide), lN_tn (by omega), lN_tn (by omega), Nat.mod_eq_of_lt (by omega)]
theorem m_quot_loop {a T kk : Nat} (hT0 : 0 < T) (hT : T < 8192) (haT : a ≤ T) (hk : kk ≤ 13) (h1 : T ≤ a * 2 ^ kk) (h2 : ∀ j, j < kk → a * 2 ^ j < T) (h3 : 8388608 ≤ FP.Core.nearest (a * 2 ^ kk * 8388608) T) (h4 : FP.Core.nearest (a * 2 ^ kk * 8388608) T ≤ 16777216) {x0 : Int64} {K : Int32 → Prop} (k : K (nI ((127 - kk) * 8388608 + FP.Core.nearest (a * 2 ^ kk * 8388608) T - 8388608))) : ∀ (n j : Nat), j + n = kk + 1 → j ≤ kk → wpl_X9_quotient_15 K n x0 (lN T) (nI (127 - j)) (lN (a * 2 ^ j)) := by
  intro n
  induction n with
  | zero => intro j b c; omega
  | succ n ih =>
    intro j b c
    have hp : 2 ^ j ≤ 2 ^ 13 := Nat.pow_le_pow_right (by decide) (by omega)
    have hA : a * 2 ^ j ≤ 8192 * 8192 := Nat.mul_le_mul (by omega) (by omega)
    rw [wpl_X9_quotient_15, lgc_ge (by omega) (by omega)]
    rcases Nat.lt_or_ge j kk with q | q
    · have := h2 j q
      refine ⟨fun x => by omega, fun _ => ?_⟩
      rw [show (2 : Int64) = lN 2 from rfl, lN_mul, Nat.mul_assoc, ← Nat.pow_succ, show 127 - j = (127 - (j + 1)) + 1 by omega, pk_m1]
      exact ih (j + 1) (by omega) (by omega)
    · have : j = kk := by omega
      subst this
      refine ⟨fun _ => ?_, fun x => absurd h1 x⟩
      have hx2 : ¬ lN T = 0 := by
        rw [show (0 : Int64) = lN 0 from rfl, pk_lEQ (by omega) (by decide)]; omega
      have hR : a * 2 ^ j * 8388608 % T < T := Nat.mod_lt _ hT0
      have hQ : a * 2 ^ j * 8388608 / T ≤ a * 2 ^ j * 8388608 := Nat.div_le_self _ _
      rw [shl23 (by omega), nI_l (by omega), shl23 (by omega), jlrem_lN (by omega) hT0 (by omega), pk_lDiv (by omega) hT0 (by omega), show (2 : Int64) = lN 2 from rfl, lN_mul, lgc_gt (by omega) (by omega), lcmp0, pk_lEQ (by omega) (by omega), jlrem_lN (by omega) (by decide) (by decide), lcmp0, show (1 : Int64) = lN 1 from rfl, pk_lEQ (by omega) (by decide), show (0 : Int64) = lN 0 from rfl, show (8388608 : Int64) = lN 8388608 from rfl, lN_add, lN_add, lN_add, lN_add]
      have fin : ∀ N : Nat, N = FP.Core.nearest (a * 2 ^ j * 8388608) T → K (Int64.toInt32 (lN ((127 - j) * 8388608 + N) - lN 8388608)) := fun N e => by
        rw [← e] at k h3 h4
        rw [lN_sub (by omega), lN_i]
        exact k
      have hx2' : ¬ lN T = lN 0 := hx2
      refine ⟨hx2', hx2', fun x => fin _ ?_, fun x => ⟨fun y => fin _ ?_, fun y => ⟨fun w => fin _ ?_, fun w => fin _ ?_⟩⟩⟩
      · unfold FP.Core.nearest; rw [if_neg (by omega), if_pos (by omega)]
      · unfold FP.Core.nearest; rw [if_pos (by omega)]; rfl
      · unfold FP.Core.nearest; rw [if_neg (by omega), if_neg (by omega)]; omega
      · unfold FP.Core.nearest; rw [if_neg (by omega), if_neg (by omega)]; omega
theorem x_totals_loop {q z cr sv : Nat → Nat} {pt gt : Nat} {a b c d : Nat → Int32} {w p g : Int32} (hC : SrvC q z cr sv pt gt a b c d w p g) {K : Int32 → Prop} (k : K (nI (fb_sm sv 16))) : ∀ (n i : Nat), i + n = 17 → i ≤ 16 → wpl_X5_totalOfAll_4 a b c d w p g K n (nI (fb_sm sv i)) (nI i) := by
  intro n
  induction n with
  | zero => intro i h1 h2; omega
  | succ n ih =>
    intro i h1 h2
    rw [wpl_X5_totalOfAll_4]
    rcases Nat.lt_or_ge i 16 with y | y
    · refine ⟨fun x => absurd x (by rw [show (16 : Int32) = nI 16 from rfl, nI_leI (by decide) (by omega)]; omega), fun _ => ⟨vp_in_nI y (by decide), ?_⟩⟩
      rw [nI_clamp (by omega), hC.2.2.2.1 i y, nI_add, nI_1]
      exact ih (i + 1) (by omega) (by omega)
    · have : i = 16 := by omega
      subst this
      exact ⟨fun _ => k, fun x => absurd (by decide) x⟩
section CS8
variable {B L : Nat} {xs : Nat → Int32} {J : JT} {x3 : Int32} {ec : Nat → Int32} {a0 : Nat → Nat} {n0 : Nat → Int32} {r0 : Nat → Nat → Int32} {s : Int32} {a1 : Nat → Nat} {n1 : Nat → Int32} {r1 : Nat → Nat → Int32} {a2 : Nat → Nat} {n2 : Nat → Int32} {r2 : Nat → Nat → Int32} {a3 : Nat → Nat} {n3 : Nat → Int32} {r3 : Nat → Nat → Int32} {f g : Nat → Int32} {sm : Int32} {em : Nat → Int32} {hh : Int64}
theorem m_share_loop {q z cr sv : Nat → Nat} {pt gt c : Nat} (hM : SrvM q z cr sv pt gt f) (hc : c < 16) (hb : fb_sm sv 16 < 8192) {K : Int32 → (Nat → Int32) → Prop} (k1 : ¬ fb_sm sv 16 = 0 → wp_X9_quotient (lN (sv c)) (lN (fb_sm sv 16)) (fun r => K r em)) (k0 : fb_sm sv 16 = 0 → K 0 em) : ∀ (n i : Nat), i + n = 17 → i ≤ 16 → wpl_X9_shareBits_18 f g sm hh K n (nI c) (nI (fb_sm sv i)) (nI i) em := by
  intro n
  induction n with
  | zero => intro i h1 h2; omega
  | succ n ih =>
    intro i h1 h2
    rw [wpl_X9_shareBits_18]
    rcases Nat.lt_or_ge i 16 with y | y
    · refine ⟨fun x => absurd x (by rw [show (16 : Int32) = nI 16 from rfl, nI_leI (by decide) (by omega)]; omega), fun _ => ?_⟩
      rw [show (388 : Int32) + nI i = nI (388 + i) from ix, nI_clamp (by omega), hM.2.2.2.1 i y, nI_add, nI_1]
      exact ⟨vp_in_nI (by omega) (by decide), ih (i + 1) (by omega) (by omega)⟩
    · have : i = 16 := by omega
      subst this
      have hs := fb_sm_part sv hc
      refine ⟨fun _ => ?_, fun x => absurd (by decide) x⟩
      rw [show (388 : Int32) + nI c = nI (388 + c) from ix, nI_clamp (by omega), hM.2.2.2.1 c hc, nI_l (by omega), nI_l (by omega), show (0 : Int32) = nI 0 from rfl, nI_eq (by omega) (by decide)]
      exact ⟨fun x => ⟨vp_in_nI (by omega) (by decide), k1 x⟩, k0⟩
theorem cs_shareBits (hB : B ≤ 600) (hv1 : vp_in (x3 + 1) L) (hI : Inv B ec n0 r0 s n1 r1 n2 r2 n3 r3 f g sm em) (hJ : Goes9 B (x3 + 5) J) : wc_698 L xs J x3 ec a0 n0 r0 s a1 n1 r1 a2 n2 r2 a3 n3 r3 f g sm em hh := by
  rw [wc_698]
  refine ⟨hv1, ?_⟩
  generalize xs (x3 + 1).toNatClampNeg = x
  rw [wp_X8_shareBits]
  rcases client_cases x with h | ⟨c, hc, rfl⟩
  · refine x_isClient_out h ⟨fun y => absurd rfl y, fun _ => x_fail fc2 ⟨hv1, ?_⟩⟩
    rw [wp_X9_shareBits]
    exact m_isClient_out h ⟨fun y => absurd rfl y, fun _ => m_fails fc2 ⟨fun _ => hJ _ _ _ _ _ _ _ _ _ _ _ _ _ _ _ _ _ _ _ (hI.err (by decide)), fun y => y rfl⟩⟩
  · obtain ⟨s9, -, -, -, -, hS, -⟩ := id hI
    obtain ⟨t, ky, O, Q, q, z, cr, sv, LL, U, pt, gt, ⟨h1, h2, h3⟩, ⟨k1, k2, k3⟩, ⟨o1, o2⟩, hw, ⟨g1, g2, g3⟩, ⟨e1, e2, e3, e4⟩, ⟨p1, p2, p3, p4, p5⟩, ⟨u1, u2, u3, u4⟩, ⟨s1, s2, s3, s4⟩⟩ := hS
    have hb : fb_sm sv 16 ≤ tot q z sv := fb_sm_le (fun i _ => Nat.le_add_right _ _)
    have hsc := fb_sm_part sv hc
    refine x_isClient_in hc ⟨fun _ => ?_, fun y => absurd y one_ne⟩
    rw [wp_X5_totalOfAll]
    refine ⟨17, x_totals_loop s1 ?_ 17 0 (by omega) (by omega)⟩
    rw [nI_clamp (by omega), s1.2.2.2.1 c hc, show (0 : Int32) = nI 0 from rfl, nI_ltI (by decide) (by omega)]
    have run : ∀ v : Int32, (¬ fb_sm sv 16 = 0 → wp_X9_quotient (lN (sv c)) (lN (fb_sm sv 16)) (fun r => (v = r → J (x3 + 5) ec a0 n0 r0 s a1 n1 r1 a2 n2 r2 a3 n3 r3 f g sm em hh) ∧ (¬ (v = r) → False))) → (fb_sm sv 16 = 0 → v = 0) → wp_X9_shareBits f g sm em hh (nI c) (fun (v3 : Int32) (g4 : Nat → Int32) => ((v = v3 → J (x3 + 5) ec a0 n0 r0 s a1 n1 r1 a2 n2 r2 a3 n3 r3 f g sm g4 hh) ∧ (¬ (v = v3) → False))) := fun v y1 y0 => by
      rw [wp_X9_shareBits]
      refine m_isClient_in hc ⟨fun _ => ⟨17, m_share_loop s2 hc (by omega) y1 (fun w => ?_) 17 0 (by omega) (by omega)⟩, fun y => absurd y one_ne⟩
      rw [y0 w]
      exact ⟨fun _ => hJ _ _ _ _ _ _ _ _ _ _ _ _ _ _ _ _ _ _ _ (hI.up), fun y => y rfl⟩
    refine ⟨fun hT => ?_, fun hT => ⟨hv1, run _ (fun y => by omega) (fun _ => rfl)⟩⟩
    have v16 : vp_in (nI c) 16 := vp_in_nI hc (by decide)
    refine ⟨v16, ?_⟩
    rcases Nat.eq_zero_or_pos (sv c) with hz | hz
    · rw [hz, share_zero hT (by omega)]
      refine ⟨by unfold vf_n32; decide, ?_⟩
      rw [wp_X8_bitsOfShare]
      refine ⟨fun y => absurd y (by decide), fun _ => ⟨hv1, run _ (fun _ => ?_) (fun _ => rfl)⟩⟩
      rw [hz, wp_X9_quotient]
      exact ⟨fun y => absurd ((lcmp0 _ _).mpr rfl) y, fun _ => ⟨fun _ => hJ _ _ _ _ _ _ _ _ _ _ _ _ _ _ _ _ _ _ _ (hI.up), fun y => y rfl⟩⟩
    · obtain ⟨k, hk, c1, c2, c3, c4, c5⟩ := share_at hz (by omega : sv c ≤ fb_sm sv 16) (by omega)
      rw [c5]
      have hk0 : k = 0 → FP.Core.nearest (sv c * 2 ^ k * 8388608) (fb_sm sv 16) < 16777216 := fun e => by
        subst e
        rw [Nat.pow_zero, Nat.mul_one] at c1 ⊢
        have : fb_sm sv 16 = sv c := by omega
        rw [this, Nat.mul_comm, f9_near_mul hz]
        decide
      have quo : ∀ (K : Int32 → Prop), K (nI ((127 - k) * 8388608 + FP.Core.nearest (sv c * 2 ^ k * 8388608) (fb_sm sv 16) - 8388608)) → wp_X9_quotient (lN (sv c)) (lN (fb_sm sv 16)) K := fun K kk => by
        rw [wp_X9_quotient]
        refine ⟨fun _ => ⟨k + 1, ?_⟩, fun y => absurd ((lcmp0 _ _).mp y) (by rw [show (0 : Int64) = lN 0 from rfl, pk_lEQ (by omega) (by decide)]; omega)⟩
        have := m_quot_loop (a := sv c) (kk := k) hT (by omega) (by omega) hk c1 c2 c3 c4 (x0 := lN (sv c)) kk (k + 1) 0 (by omega) (by omega)
        rw [Nat.pow_zero, Nat.mul_one] at this
        exact this
      generalize FP.Core.nearest (sv c * 2 ^ k * 8388608) (fb_sm sv 16) = N at *
      by_cases hN : N < 16777216
      · rw [if_pos hN]
        refine ⟨f9_no_nan (by omega) (by omega), x_bits (by omega) (by omega) (by omega) ⟨hv1, run _ (fun _ => quo _ ?_) (fun y => by omega)⟩⟩
        rw [show (127 - k) * 8388608 + N - 8388608 = (127 - k) * 8388608 + (N - 8388608) by omega]
        exact ⟨fun _ => hJ _ _ _ _ _ _ _ _ _ _ _ _ _ _ _ _ _ _ _ (hI.up), fun y => y rfl⟩
      · rw [if_neg hN]
        have hk1 : 0 < k := Nat.pos_of_ne_zero (fun e => hN (hk0 e))
        refine ⟨f9_no_nan (by omega) (by decide), x_bits (by omega) (by omega) (by decide) ⟨hv1, run _ (fun _ => quo _ ?_) (fun y => by omega)⟩⟩
        rw [show (127 - k) * 8388608 + N - 8388608 = (127 - k + 1) * 8388608 + 0 by omega]
        exact ⟨fun _ => hJ _ _ _ _ _ _ _ _ _ _ _ _ _ _ _ _ _ _ _ (hI.up), fun y => y rfl⟩
end CS8
