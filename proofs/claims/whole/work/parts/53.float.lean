/-! floats of the format of 32 bits: normal numbers by their bits -/
def f9_nf (E t : Nat) : UInt32 := UInt32.ofNat (E * 8388608 + t)
theorem f9_c_tails : FP.Core.b32.tails = 8388608 := by decide
theorem f9_c_exps : FP.Core.b32.exps = 256 := by decide
theorem f9_c_qmin : FP.Core.b32.qmin = -149 := by decide
theorem f9_c_qmax : FP.Core.b32.qmax = 104 := by decide
theorem f9_c_p : 2 ^ FP.Core.b32.p = 16777216 := by decide
theorem f9_c_pi : ((FP.Core.b32.p : Int) - 1) = 23 := by decide
theorem f9_nf_toNat {E t : Nat} (hE : E ≤ 254) (ht : t < 8388608) : (f9_nf E t).toNat = E * 8388608 + t := by
  unfold f9_nf
  rw [UInt32.toNat_ofNat']
  exact Nat.mod_eq_of_lt (by omega)
theorem f9_dec {E t : Nat} (h1 : 1 ≤ E) (hE : E ≤ 254) (ht : t < 8388608) : FP.Core.decode FP.Core.b32 (f9_nf E t).toNat = .fin false (8388608 + t) (-149 + ((E : Int) - 1)) := by
  rw [f9_nf_toNat hE ht]
  unfold FP.Core.decode FP.Core.fieldE FP.Core.fieldT FP.Core.fieldS
  rw [f9_c_tails, f9_c_exps, f9_c_qmin]
  have e1 : (E * 8388608 + t) / 8388608 = E := by omega
  have e2 : (E * 8388608 + t) % 8388608 = t := by omega
  rw [e1, e2]
  have e3 : E % 256 = E := by omega
  have e4 : E / 256 = 0 := by omega
  rw [e3, e4, if_neg (by omega), if_neg (by omega)]
  rfl
theorem f9_enc {E t : Nat} (h1 : 1 ≤ E) : FP.Core.encode FP.Core.b32 (.fin false (8388608 + t) (-149 + ((E : Int) - 1))) = E * 8388608 + t := by
  unfold FP.Core.encode FP.Core.assemble
  simp only
  rw [f9_c_tails, f9_c_exps, f9_c_qmin, if_neg (by omega)]
  have e1 : (-149 + ((E : Int) - 1) - -149).toNat + 1 = E := by omega
  rw [e1]
  show (0 * 256 + E) * 8388608 + (8388608 + t - 8388608) = _
  omega
theorem f9_log_eq {n k : Nat} (h1 : 2 ^ k ≤ n) (h2 : n < 2 ^ (k + 1)) : n.log2 = k := (Nat.log2_eq_iff (by have := Nat.two_pow_pos k; omega)).mpr ⟨h1, h2⟩
/-- rounding, where the quantum is known -/
theorem f9_rr_at {num den : Nat} {e q : Int} {s : Bool} (hn : ¬ num = 0) (hq : FP.Core.quantum FP.Core.b32 num den e = q) : FP.Core.roundRatio FP.Core.b32 s num den e = FP.Core.settle FP.Core.b32 s (FP.Core.nearest (FP.Core.unitsNum num e q) (FP.Core.unitsDen den e q)) q := by
  unfold FP.Core.roundRatio FP.Core.roundAt
  rw [if_neg hn, hq]
theorem f9_quant {num den : Nat} {e l : Int} (hl : FP.Core.leading num den = l) (hb : -149 ≤ l + e - 23) : FP.Core.quantum FP.Core.b32 num den e = l + e - 23 := by
  unfold FP.Core.quantum
  rw [hl, f9_c_qmin, f9_c_pi]
  omega
theorem f9_near_one (M : Nat) : FP.Core.nearest M 1 = M := by
  unfold FP.Core.nearest
  rw [Nat.mod_one, Nat.div_one, if_pos (by decide)]
theorem f9_near_mul {M B : Nat} (hB : 0 < B) : FP.Core.nearest (M * B) B = M := by
  unfold FP.Core.nearest
  rw [Nat.mul_mod_left, Nat.mul_div_cancel _ hB, if_pos (by omega)]
theorem f9_near_both (A B k : Nat) (hk : 0 < k) : FP.Core.nearest (A * k) (B * k) = FP.Core.nearest A B := by
  unfold FP.Core.nearest
  rw [Nat.mul_div_mul_right _ _ hk, Nat.mul_mod_mul_right]
  have a1 : (2 * (A % B * k) < B * k) = (2 * (A % B) < B) := by
    rw [← Nat.mul_assoc]
    exact propext (Nat.mul_lt_mul_right hk)
  have a2 : (B * k < 2 * (A % B * k)) = (B < 2 * (A % B)) := by
    rw [← Nat.mul_assoc]
    exact propext (Nat.mul_lt_mul_right hk)
  simp only [a1, a2]
theorem f9_near_bounds {A B M N : Nat} (hB : 0 < B) (h1 : M * B ≤ A) (h2 : A < N * B) : M ≤ FP.Core.nearest A B ∧ FP.Core.nearest A B ≤ N := by
  have d1 : M ≤ A / B := (Nat.le_div_iff_mul_le hB).mpr h1
  have d2 : A / B < N := (Nat.div_lt_iff_lt_mul hB).mpr h2
  unfold FP.Core.nearest
  constructor
  · split
    · exact d1
    · split <;> omega
  · split
    · omega
    · split <;> omega
/-- a whole number -/
theorem f9_i2f_at {a l : Nat} (h1 : 2 ^ l ≤ a) (h2 : a < 2 ^ (l + 1)) (hl : l ≤ 20) : FP.i2f (nI a) = f9_nf (127 + l) (a * 2 ^ (23 - l) - 8388608) := by
  have hp : 2 ^ (l + 1) ≤ 2 ^ 21 := Nat.pow_le_pow_right (by decide) (by omega)
  have ha : a < 2 ^ 21 := by omega
  have hl0 := Nat.two_pow_pos l
  have e23 : 2 ^ l * 2 ^ (23 - l) = 8388608 := by
    rw [← Nat.pow_add, show l + (23 - l) = 23 by omega]
  have e24 : 2 ^ (l + 1) * 2 ^ (23 - l) = 16777216 := by
    rw [← Nat.pow_add, show l + 1 + (23 - l) = 24 by omega]
  have hs := Nat.two_pow_pos (23 - l)
  have b1 : 8388608 ≤ a * 2 ^ (23 - l) := by rw [← e23]; exact Nat.mul_le_mul_right _ h1
  have b2 : a * 2 ^ (23 - l) < 16777216 := by rw [← e24]; exact (Nat.mul_lt_mul_right hs).mpr h2
  show UInt32.ofNat (FP.Core.fromInt FP.Core.b32 (nI a).toInt) = _
  refine congrArg UInt32.ofNat ?_
  rw [nI_toInt (by omega)]
  unfold FP.Core.fromInt FP.Core.ofInt FP.Core.round
  simp only [Int.natAbs_natCast]
  rw [decide_eq_false (show ¬ (a : Int) < 0 by omega)]
  have hlead : FP.Core.leading a 1 = (l : Int) := by
    unfold FP.Core.leading
    simp only
    have z : Nat.log2 1 = 0 := by decide
    rw [f9_log_eq h1 h2, z]
    have t1 : ((l : Int) - ((0 : Nat) : Int)).toNat = l := by omega
    have t2 : (-((l : Int) - ((0 : Nat) : Int))).toNat = 0 := by omega
    rw [t1, t2, Nat.one_mul, Nat.pow_zero, Nat.mul_one, if_pos h1]
    omega
  rw [f9_rr_at (q := (l : Int) + 0 - 23) (by omega) (f9_quant hlead (by omega))]
  unfold FP.Core.unitsNum FP.Core.unitsDen FP.Core.settle FP.Core.bound
  have t1 : (0 - ((l : Int) + 0 - 23)).toNat = 23 - l := by omega
  have t2 : (((l : Int) + 0 - 23) - 0).toNat = 0 := by omega
  rw [t1, t2, Nat.pow_zero, Nat.mul_one, f9_near_one, f9_c_p, if_pos b2, f9_c_qmax, if_pos (by omega)]
  have := f9_enc (E := 127 + l) (t := a * 2 ^ (23 - l) - 8388608) (by omega)
  have t3 : 8388608 + (a * 2 ^ (23 - l) - 8388608) = a * 2 ^ (23 - l) := by omega
  have t4 : (-149 + (((127 + l : Nat) : Int) - 1)) = (l : Int) + 0 - 23 := by omega
  rw [t3, t4] at this
  exact this
/-- a product with a power of two -/
theorem f9_fmul_at {E F t : Nat} (hE1 : 1 ≤ E) (hE : E ≤ 254) (hF1 : 1 ≤ F) (hF : F ≤ 254) (ht : t < 8388608) (h1 : 128 ≤ E + F) (h2 : E + F ≤ 381) : FP.fmul (f9_nf E t) (f9_nf F 0) = f9_nf (E + F - 127) t := by
  show UInt32.ofNat (FP.Core.mul FP.Core.b32 (f9_nf E t).toNat (f9_nf F 0).toNat) = _
  unfold FP.Core.mul
  rw [f9_dec hE1 hE ht, f9_dec hF1 hF (by decide)]
  unfold FP.Core.exactProduct FP.Core.round
  simp only
  have hlead : FP.Core.leading ((8388608 + t) * (8388608 + 0)) 1 = 46 := by
    unfold FP.Core.leading
    simp only
    have z : Nat.log2 1 = 0 := by decide
    rw [f9_log_eq (k := 46) (by omega) (by omega), z]
    have t1 : (((46 : Nat) : Int) - ((0 : Nat) : Int)).toNat = 46 := by decide
    have t2 : (-(((46 : Nat) : Int) - ((0 : Nat) : Int))).toNat = 0 := by decide
    rw [t1, t2, if_pos (by omega)]
    decide
  rw [f9_rr_at (q := 46 + (-149 + ((E : Int) - 1) + (-149 + ((F : Int) - 1))) - 23) (by omega) (f9_quant hlead (by omega))]
  unfold FP.Core.unitsNum FP.Core.unitsDen FP.Core.settle FP.Core.bound
  have t1 : ((-149 + ((E : Int) - 1) + (-149 + ((F : Int) - 1))) - (46 + (-149 + ((E : Int) - 1) + (-149 + ((F : Int) - 1))) - 23)).toNat = 0 := by omega
  have t2 : ((46 + (-149 + ((E : Int) - 1) + (-149 + ((F : Int) - 1))) - 23) - (-149 + ((E : Int) - 1) + (-149 + ((F : Int) - 1)))).toNat = 23 := by omega
  rw [t1, t2, Nat.pow_zero, Nat.mul_one, Nat.one_mul, show (2 : Nat) ^ 23 = 8388608 + 0 by decide, f9_near_mul (by decide), f9_c_p, if_pos (by omega), f9_c_qmax, if_pos (by omega)]
  refine congrArg UInt32.ofNat ?_
  have := f9_enc (E := E + F - 127) (t := t) (by omega)
  have t4 : (-149 + (((E + F - 127 : Nat) : Int) - 1)) = 46 + (-149 + ((E : Int) - 1) + (-149 + ((F : Int) - 1))) - 23 := by omega
  rw [t4] at this
  exact this
theorem f9_f2i_at {t : Nat} (ht : t < 8388608) : FP.f2i (f9_nf 150 t) = nI (8388608 + t) := by
  show FP.Core.toI (FP.Core.decode FP.Core.b32 (f9_nf 150 t).toNat) = _
  rw [f9_dec (by decide) (by decide) ht]
  unfold FP.Core.toI FP.Core.toInt FP.Core.truncate FP.Core.signed
  simp only
  have t1 : (-149 + (((150 : Nat) : Int) - 1)).toNat = 0 := by decide
  have t2 : (-(-149 + (((150 : Nat) : Int) - 1))).toNat = 0 := by decide
  rw [t1, t2, Nat.pow_zero, Nat.mul_one, Nat.div_one]
  apply Int32.toInt_inj.mp
  rw [nI_toInt (by omega)]
  have t3 : max (-2 ^ 31) (min (2 ^ 31 - 1) (((8388608 + t : Nat)) : Int)) = ((8388608 + t : Nat) : Int) := by omega
  simp only [Bool.false_eq_true, if_false]
  rw [t3, fb_ofI (by omega) (by omega)]
theorem f9_cmp_zero {E t : Nat} (h1 : 1 ≤ E) (hE : E ≤ 254) (ht : t < 8388608) : FP.fcmp (f9_nf E t) 0 = some .gt := by
  show FP.Core.order (FP.Core.decode FP.Core.b32 (f9_nf E t).toNat) (FP.Core.decode FP.Core.b32 (0 : UInt32).toNat) = _
  have e0 : FP.Core.decode FP.Core.b32 (0 : UInt32).toNat = .fin false 0 (-149) := by decide
  rw [f9_dec h1 hE ht, e0]
  unfold FP.Core.order FP.Core.signed FP.Core.inUnits
  simp only [Bool.false_eq_true, if_false, Nat.zero_mul]
  have hp : 0 < (8388608 + t) * 2 ^ (-149 + ((E : Int) - 1) - min (-149 + ((E : Int) - 1)) (-149)).toNat := Nat.mul_pos (by omega) (Nat.two_pow_pos _)
  generalize (8388608 + t) * 2 ^ (-149 + ((E : Int) - 1) - min (-149 + ((E : Int) - 1)) (-149)).toNat = v at hp ⊢
  congr 1
  exact Int.compare_eq_gt.mpr (by omega)
theorem f9_one_bits : (0x3f800000 : UInt32) = f9_nf 127 0 := by decide
theorem f9_cmp_lt {E t : Nat} (h1 : 1 ≤ E) (hE : E < 127) (ht : t < 8388608) : FP.fcmp (f9_nf E t) 0x3f800000 = some .lt := by
  show FP.Core.order (FP.Core.decode FP.Core.b32 (f9_nf E t).toNat) (FP.Core.decode FP.Core.b32 (0x3f800000 : UInt32).toNat) = _
  rw [f9_one_bits, f9_dec h1 (by omega) ht, f9_dec (by decide) (by decide) (by decide)]
  unfold FP.Core.order FP.Core.signed FP.Core.inUnits
  simp only [Bool.false_eq_true, if_false]
  have m1 : min (-149 + ((E : Int) - 1)) (-149 + (((127 : Nat) : Int) - 1)) = -149 + ((E : Int) - 1) := by omega
  rw [m1]
  have t1 : (-149 + ((E : Int) - 1) - (-149 + ((E : Int) - 1))).toNat = 0 := by omega
  obtain ⟨j, hj⟩ : ∃ j : Nat, (-149 + (((127 : Nat) : Int) - 1) - (-149 + ((E : Int) - 1))).toNat = j + 1 := ⟨126 - E, by omega⟩
  rw [t1, hj, Nat.pow_zero, Nat.mul_one, Nat.pow_succ]
  have := Nat.two_pow_pos j
  congr 1
  exact Int.compare_eq_lt.mpr (by omega)
theorem f9_cmp_ge {t : Nat} (ht : t < 8388608) : FP.fcmp (f9_nf 127 t) 0x3f800000 = some .gt ∨ FP.fcmp (f9_nf 127 t) 0x3f800000 = some .eq := by
  have e : FP.fcmp (f9_nf 127 t) 0x3f800000 = some (compare (((8388608 + t : Nat)) : Int) ((8388608 : Nat) : Int)) := by
    show FP.Core.order (FP.Core.decode FP.Core.b32 (f9_nf 127 t).toNat) (FP.Core.decode FP.Core.b32 (0x3f800000 : UInt32).toNat) = _
    rw [f9_one_bits, f9_dec (by decide) (by decide) ht, f9_dec (by decide) (by decide) (by decide)]
    unfold FP.Core.order FP.Core.signed FP.Core.inUnits
    simp only [Bool.false_eq_true, if_false]
    have t1 : (-149 + (((127 : Nat) : Int) - 1) - min (-149 + (((127 : Nat) : Int) - 1)) (-149 + (((127 : Nat) : Int) - 1))).toNat = 0 := by decide
    rw [t1, Nat.pow_zero, Nat.mul_one, Nat.mul_one]
  rw [e]
  rcases Nat.eq_zero_or_pos t with h | h
  · subst h; exact Or.inr (by decide)
  · exact Or.inl (congrArg some (Int.compare_eq_gt.mpr (by omega)))
theorem f9_no_nan {E t : Nat} (hE : E ≤ 254) (ht : t < 8388608) : vf_n32 (f9_nf E t) := by
  unfold vf_n32
  rw [UInt32.le_iff_toNat_le, UInt32.toNat_and, f9_nf_toNat hE ht]
  show (E * 8388608 + t) &&& (2 ^ 31 - 1) ≤ 2139095040
  rw [Nat.and_two_pow_sub_one_eq_mod]
  omega
/-- a quotient of two normal numbers, the first not greater in value -/
theorem f9_fdiv_at {E F t u : Nat} (hE1 : 1 ≤ E) (hE : E ≤ 254) (hF1 : 1 ≤ F) (hF : F ≤ 254) (ht : t < 8388608) (hu : u < 8388608) {G N : Nat} (hG1 : 1 ≤ G) (hG : G ≤ 253)
    (h : (8388608 + u ≤ 8388608 + t ∧ G + F = E + 127 ∧ N = FP.Core.nearest ((8388608 + t) * 8388608) (8388608 + u)) ∨ (8388608 + t < 8388608 + u ∧ G + F = E + 126 ∧ N = FP.Core.nearest ((8388608 + t) * 16777216) (8388608 + u))) :
    8388608 ≤ N ∧ N ≤ 16777216 ∧ FP.fdiv (f9_nf E t) (f9_nf F u) = (if N < 16777216 then f9_nf G (N - 8388608) else f9_nf (G + 1) 0) := by
  have hN : 8388608 ≤ N ∧ N ≤ 16777216 := by
    rcases h with ⟨a, -, c⟩ | ⟨a, -, c⟩
    · rw [c]; exact f9_near_bounds (by omega) (by omega) (by omega)
    · rw [c]; exact f9_near_bounds (by omega) (by omega) (by omega)
  refine ⟨hN.1, hN.2, ?_⟩
  show UInt32.ofNat (FP.Core.div FP.Core.b32 (f9_nf E t).toNat (f9_nf F u).toNat) = _
  unfold FP.Core.div
  rw [f9_dec hE1 hE ht, f9_dec hF1 hF hu]
  unfold FP.Core.quotient
  simp only
  rw [if_neg (by omega)]
  have hl1 : (8388608 + t).log2 = 23 := f9_log_eq (by omega) (by omega)
  have hl2 : (8388608 + u).log2 = 23 := f9_log_eq (by omega) (by omega)
  have z1 : (((23 : Nat) : Int) - ((23 : Nat) : Int)).toNat = 0 := by decide
  have z2 : (-(((23 : Nat) : Int) - ((23 : Nat) : Int))).toNat = 0 := by decide
  have main : FP.Core.roundRatio FP.Core.b32 (false != false) (8388608 + t) (8388608 + u) (-149 + ((E : Int) - 1) - (-149 + ((F : Int) - 1))) = FP.Core.settle FP.Core.b32 false N (-149 + ((G : Int) - 1)) := by
    rcases h with ⟨a, b, c⟩ | ⟨a, b, c⟩
    · have hlead : FP.Core.leading (8388608 + t) (8388608 + u) = 0 := by
        unfold FP.Core.leading
        simp only
        rw [hl1, hl2, z1, z2, Nat.pow_zero, Nat.mul_one, Nat.mul_one, if_pos a]
        decide
      rw [f9_rr_at (q := -149 + ((G : Int) - 1)) (by omega) (by rw [f9_quant hlead (by omega)]; omega)]
      unfold FP.Core.unitsNum FP.Core.unitsDen
      have t1 : (-149 + ((E : Int) - 1) - (-149 + ((F : Int) - 1)) - (-149 + ((G : Int) - 1))).toNat = 23 := by omega
      have t2 : (-149 + ((G : Int) - 1) - (-149 + ((E : Int) - 1) - (-149 + ((F : Int) - 1)))).toNat = 0 := by omega
      rw [t1, t2, Nat.pow_zero, Nat.mul_one, c]
      rfl
    · have hlead : FP.Core.leading (8388608 + t) (8388608 + u) = -1 := by
        unfold FP.Core.leading
        simp only
        rw [hl1, hl2, z1, z2, Nat.pow_zero, Nat.mul_one, Nat.mul_one, if_neg (by omega)]
        decide
      rw [f9_rr_at (q := -149 + ((G : Int) - 1)) (by omega) (by rw [f9_quant hlead (by omega)]; omega)]
      unfold FP.Core.unitsNum FP.Core.unitsDen
      have t1 : (-149 + ((E : Int) - 1) - (-149 + ((F : Int) - 1)) - (-149 + ((G : Int) - 1))).toNat = 24 := by omega
      have t2 : (-149 + ((G : Int) - 1) - (-149 + ((E : Int) - 1) - (-149 + ((F : Int) - 1)))).toNat = 0 := by omega
      rw [t1, t2, Nat.pow_zero, Nat.mul_one, c]
      rfl
  rw [main]
  unfold FP.Core.settle FP.Core.bound
  rw [f9_c_p, f9_c_qmax]
  by_cases hlt : N < 16777216
  · rw [if_pos hlt, if_pos hlt, if_pos (by omega)]
    refine congrArg UInt32.ofNat ?_
    have := f9_enc (E := G) (t := N - 8388608) hG1
    rw [show 8388608 + (N - 8388608) = N by omega] at this
    exact this
  · rw [if_neg hlt, if_neg hlt, if_pos (by omega), f9_c_tails]
    refine congrArg UInt32.ofNat ?_
    have := f9_enc (E := G + 1) (t := 0) (by omega)
    rw [show (-149 + (((G + 1 : Nat) : Int) - 1)) = -149 + ((G : Int) - 1) + 1 by omega] at this
    exact this
