/-! pure facts: small methods -/
theorem k_lit (n : Nat) : (OfNat.ofNat n : Int32) = nI n := fa_lit n
theorem jrem_nI {a d : Nat} (ha : a < 2 ^ 31) (h0 : 0 < d) (hd : d < 2 ^ 31) : jrem (nI a) (nI d) = nI (a % d) := pk_rem ha h0 hd
theorem jlrem_lN {a d : Nat} (ha : a < 2 ^ 63) (h0 : 0 < d) (hd : d < 2 ^ 63) : jlrem (lN a) (lN d) = lN (a % d) := pk_lRem ha h0 hd
theorem nI_lt0 {a : Nat} (h : a < 2 ^ 31) : ¬ nI a < 0 := nI_pos h
/-- a test of a range: inside, or outside -/
theorem rng {x lo hi : Int32} {l h : Nat} (el : lo = nI l) (eh : hi = nI h) (hl : l ≤ h) (hh : h < 2 ^ 31) : (x < lo ∨ hi < x) ∨ ∃ k : Nat, l ≤ k ∧ k ≤ h ∧ x = nI k := by
  subst el; subst eh
  by_cases h1 : x < nI l
  · exact Or.inl (Or.inl h1)
  · by_cases h2 : nI h < x
    · exact Or.inl (Or.inr h2)
    · have h0 : ¬ x < 0 := by
        intro q
        apply h1
        rw [Int32.lt_iff_toInt_lt] at q ⊢
        rw [nI_toInt (by omega)]
        have : (0 : Int32).toInt = 0 := rfl
        omega
      obtain ⟨k, hk, rfl⟩ := nI_of h0
      rw [nI_ltI hk (by omega)] at h1
      rw [nI_ltI hh hk] at h2
      exact Or.inr ⟨k, by omega, by omega, rfl⟩
theorem x_within_out {x lo hi : Int32} {K : Int32 → Prop} (h : x < lo ∨ hi < x) (k : K 0) : wp_X8_isWithin x lo hi K := by
  rw [wp_X8_isWithin]
  rcases h with h | h
  · exact ⟨fun _ => k, fun q => absurd h q⟩
  · exact ⟨fun _ => k, fun _ => ⟨fun _ => k, fun q => absurd h q⟩⟩
theorem x_within_in {x lo hi : Int32} {K : Int32 → Prop} {l h y : Nat} (el : lo = nI l) (eh : hi = nI h) (ex : x = nI y) (h1 : l ≤ y) (h2 : y ≤ h) (hh : h < 2 ^ 31) (k : K 1) : wp_X8_isWithin x lo hi K := by
  subst el; subst eh; subst ex
  rw [wp_X8_isWithin]
  refine ⟨fun q => absurd q ?_, fun _ => ⟨fun q => absurd q ?_, fun _ => k⟩⟩
  · rw [nI_ltI (by omega) (by omega)]; omega
  · rw [nI_ltI (by omega) (by omega)]; omega
theorem m_within_out {x lo hi : Int32} {K : Int32 → Prop} (h : x < lo ∨ hi < x) (k : K 0) : wp_X9_within x lo hi K := by
  rw [wp_X9_within]
  rcases h with h | h
  · exact ⟨fun _ => k, fun q => absurd h q⟩
  · exact ⟨fun _ => k, fun _ => ⟨fun _ => k, fun q => absurd h q⟩⟩
theorem m_within_in {x lo hi : Int32} {K : Int32 → Prop} {l h y : Nat} (el : lo = nI l) (eh : hi = nI h) (ex : x = nI y) (h1 : l ≤ y) (h2 : y ≤ h) (hh : h < 2 ^ 31) (k : K 1) : wp_X9_within x lo hi K := by
  subst el; subst eh; subst ex
  rw [wp_X9_within]
  refine ⟨fun q => absurd q ?_, fun _ => ⟨fun q => absurd q ?_, fun _ => k⟩⟩
  · rw [nI_ltI (by omega) (by omega)]; omega
  · rw [nI_ltI (by omega) (by omega)]; omega
theorem one_ne : ¬ (1 : Int32) = 0 := by decide
/-- an int by its value -/
theorem int_nat (x : Int32) (h0 : 0 ≤ x.toInt) : x = nI x.toInt.toNat := by
  apply Int32.toInt_inj.mp
  have h1 : x.toInt < 2 ^ 31 := Int32.toInt_lt x
  rw [nI_toInt (by omega)]
  omega
theorem x_floorMod {a d : Nat} {K : Int32 → Prop} (ha : a < 2 ^ 31) (h0 : 0 < d) (hd : d < 2 ^ 31) (k : K (nI (a % d))) : wp_J9_floorMod_7cf53 (nI a) (nI d) K := by
  rw [wp_J9_floorMod_7cf53]
  refine ⟨nI_ne0 h0 hd, fun _ => by rw [jrem_nI ha h0 hd]; exact k, fun q => absurd ?_ q⟩
  rw [fb_xorI]
  apply nI_pos'
  exact Nat.xor_lt_two_pow ha hd
