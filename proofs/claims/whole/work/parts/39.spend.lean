/-! pure facts: the class's serving follows the abstract run -/
theorem sm_pos {q : Nat → Nat} {i n : Nat} (h : i < n) (hq : 0 < q i) : 0 < fb_sm q n := by
  have := fb_sm_part q h; omega
theorem x_covered {q z cr sv : Nat → Nat} {pt gt : Nat} {a b c d : Nat → Int32} {w p g : Int32} (h : SrvC q z cr sv pt gt a b c d w p g) (hI : SrvI q z cr sv pt gt) {K : Int32 → Prop} (k0 : (q pt = 0 ∨ cr pt < z (8 * pt)) → K 0) (k1 : 0 < q pt → z (8 * pt) ≤ cr pt → K 1) : wp_X5_isFirstCovered a b c d w p g K := by
  obtain ⟨hb, ha, hc, hd, hw, hp, hg⟩ := h
  obtain ⟨h1, h2, h3, h4, h5, h6, h7⟩ := hI
  have h8 := h1 pt h5
  have h12 := h3 pt h5
  have v : vp_in (nI pt) 16 := vp_in_nI h5 (by decide)
  have e8 : nI pt * 8 = nI (8 * pt) := by rw [show (8 : Int32) = nI 8 from rfl, pk_mul, Nat.mul_comm]
  rw [wp_X5_isFirstCovered, hp, nI_clamp (by omega), hb pt h5, e8]
  refine ⟨v, fun y => ?_, fun y => ⟨vp_in_nI (by omega) (by decide), v, ?_⟩⟩
  · rw [show (0 : Int32) = nI 0 from rfl, nI_leI (by omega) (by decide)] at y
    exact k0 (Or.inl (by omega))
  · rw [show (0 : Int32) = nI 0 from rfl, nI_leI (by omega) (by decide)] at y
    have hz := tk_pos h2 h5 (by omega)
    have ha0 := ha pt 0 h5 (by omega)
    rw [Nat.add_zero] at ha0
    rw [nI_clamp (by omega), hc pt h5, ha0, nI_ltI (by omega) (by omega)]
    exact ⟨fun x => k0 (Or.inr x), fun x => k1 (by omega) (by omega)⟩
/-- the last request taken, then on: the class's state is that of the abstract step -/
theorem mvc_last {cr q : Nat → Nat} {pt v m : Nat} (h : q pt = 1) : mvc (nup cr pt v) (nup q pt (q pt - 1)) pt = nup cr pt 0 := by
  unfold mvc
  rw [if_pos (by rw [nup_s, h])]
  funext j
  by_cases e : j = pt
  · subst e; rw [nup_s, nup_s]
  · rw [nup_n e, nup_n e, nup_n e]
abbrev KS : Type := Int32 → (Nat → Int32) → (Nat → Int32) → (Nat → Int32) → (Nat → Int32) → Int32 → Int32 → Int32 → Prop
def EndS (A : KA) (K : KS) : Prop := ∀ (q z cr sv : Nat → Nat) (pt gt dn : Nat) (a b c d : Nat → Int32) (w p g : Int32), A q z cr sv pt gt dn → SrvC q z cr sv pt gt a b c d w p g → K (nI dn) a b c d w p g
/-- room for what will still be served -/
def Cap (q sv : Nat → Nat) (pt : Nat) : Prop := ∀ i, i < 16 → sv i + 9 * q i < 2 ^ 27
theorem Cap.take {q sv : Nat → Nat} {pt : Nat} (h : Cap q sv pt) {z : Nat} (hp : pt < 16) (hq : 0 < q pt) (hz : z ≤ 9) {p2 : Nat} : Cap (nup q pt (q pt - 1)) (nup sv pt (sv pt + z)) p2 := fun i hi => by
  have h1 := h i hi
  by_cases e : i = pt
  · subst e; rw [nup_s, nup_s]; omega
  · rw [nup_n e, nup_n e]; exact h1
theorem x_spend_n (A : KA) (K : KS) (hE : EndS A K) (x1 : Int32) : ∀ n : Nat,
    (∀ (q z cr sv : Nat → Nat) (pt gt rest dn v m : Nat) (a b c d : Nat → Int32) (w p g : Int32), n < m → n + v ≤ 10000 → rest < 2 ^ 20 → dn + n < 2 ^ 20 → SrvC q z cr sv pt gt a b c d w p g → SrvI q z cr sv pt gt → Cap q sv pt → Srv n q z cr sv pt gt rest dn A → wpl_X5_spend_7 K m x1 (nI rest) (nI dn) (nI v) a b c d w p g) ∧
    (∀ (q z cr sv : Nat → Nat) (pt gt rest dn v m u m2 : Nat) (a b c d : Nat → Int32) (w p g : Int32), n < m → n + v + 1 ≤ 10000 → rest < 2 ^ 20 → dn + n + 1 < 2 ^ 20 → q pt + u ≤ 8 → 9 ≤ m2 + u → u ≤ 8 → (0 < q pt → gt = 1) → SrvC q z cr sv pt gt a b c d w p g → SrvI q z cr sv pt gt → Cap q sv pt → SrvV (Srv n) q z cr sv pt gt rest dn A → wpl_X5_spend_29 (fun x1 x2 x3 x4 a b c d w p g => wpl_X5_spend_7 K m x1 x2 x3 x4 a b c d w p g) K m2 x1 (nI rest) (nI dn) (nI v) (nI u) a b c d w p g) := by
  intro n
  induction n with
  | zero =>
    refine ⟨fun q z cr sv pt gt rest dn v m a b c d w p g _ _ _ _ _ _ _ hs => hs.elim, ?_⟩
    intro q z cr sv pt gt rest dn v m u m2 a b c d w p g hm hv hr hdn hu hm2 hu8 hgt hC hI hcap hs
    obtain ⟨k, rfl⟩ : ∃ k, m2 = k + 1 := ⟨m2 - 1, by omega⟩
    rw [wpl_X5_spend_29]
    have h5 := hI.2.2.2.2.1
    rcases Nat.lt_or_ge u 8 with q8 | q8
    · refine ⟨fun y => absurd y (by rw [show (8 : Int32) = nI 8 from rfl, nI_leI (by decide) (by omega)]; omega), fun _ => x_covered hC hI (fun hc => (hs.1 hc).elim) (fun hq hz => ⟨fun y => absurd y one_ne, fun _ => ?_⟩)⟩
      have e8 : p * 8 = nI (8 * pt) := by rw [hC.2.2.2.2.2.1, show (8 : Int32) = nI 8 from rfl, pk_mul, Nat.mul_comm]
      have ha0 := hC.2.1 pt 0 h5 hq
      rw [Nat.add_zero] at ha0
      have hz9 := tk_pos hI.2.1 h5 hq
      rw [e8]
      refine ⟨vp_in_nI (by omega) (by decide), ?_⟩
      rw [nI_clamp (by omega), ha0, nI_leI (by omega) (by omega)]
      refine ⟨fun y => ?_, fun y => hE _ _ _ _ _ _ _ _ _ _ _ _ _ _ ((hs.2 hq hz).1 (by omega)) hC⟩
      have h9 := (hs.2 hq hz).2 y
      rcases Nat.lt_or_ge 1 (q pt) with y1 | y1
      · exact (h9.2 y1).elim
      · exact (h9.1 (by omega)).elim
    · have : q pt = 0 := by omega
      exact (hs.1 (Or.inl this)).elim
  | succ n ih =>
    have P1 : ∀ (q z cr sv : Nat → Nat) (pt gt rest dn v m : Nat) (a b c d : Nat → Int32) (w p g : Int32), n + 1 < m → n + 1 + v ≤ 10000 → rest < 2 ^ 20 → dn + (n + 1) < 2 ^ 20 → SrvC q z cr sv pt gt a b c d w p g → SrvI q z cr sv pt gt → Cap q sv pt → Srv (n + 1) q z cr sv pt gt rest dn A → wpl_X5_spend_7 K m x1 (nI rest) (nI dn) (nI v) a b c d w p g := by
      intro q z cr sv pt gt rest dn v m a b c d w p g hm hv hr hdn hC hI hcap hs
      obtain ⟨k, rfl⟩ : ∃ k, m = k + 1 := ⟨m - 1, by omega⟩
      rw [wpl_X5_spend_7]
      have hbound : fb_sm q 16 ≤ 16 * 8 := fb_sm_bound (fun i hi => hI.1 i hi)
      refine ⟨fun y => absurd y (by rw [show (10000 : Int32) = nI 10000 from rfl, nI_leI (by decide) (by omega)]; omega), fun _ => ?_⟩
      rw [hC.2.2.2.2.1, show (0 : Int32) = nI 0 from rfl, nI_leI (by omega) (by decide)]
      refine ⟨fun y => ?_, fun y => ?_⟩
      · have := hs.1 (by omega)
        have hw := hC.2.2.2.2.1
        rw [← hw]
        exact hE _ _ _ _ _ _ _ _ _ _ _ _ _ _ this hC
      · have hw := hC.2.2.2.2.1
        rw [← hw]
        refine x_grant hC hI (fun c' g' hC' => ⟨9, ?_⟩)
        have hI' := I_grant hI
        refine ih.2 q z _ sv pt _ rest dn v k 0 9 a b c' d w p g' (by omega) (by omega) hr (by omega) (by have := hI.1 pt hI.2.2.2.2.1; omega) (by omega) (by omega) (fun hq => ?_) hC' hI' hcap (hs.2 (by omega))
        by_cases e : gt = 0
        · rw [if_pos ⟨hq, e⟩]
        · rw [if_neg (fun x => e x.2)]; have := hI.2.2.2.2.2.1; omega
    refine ⟨P1, ?_⟩
    intro q z cr sv pt gt rest dn v m u m2 a b c d w p g hm hv hr hdn hu hm2 hu8 hgt hC hI hcap hs
    obtain ⟨k, rfl⟩ : ∃ k, m2 = k + 1 := ⟨m2 - 1, by omega⟩
    rw [wpl_X5_spend_29]
    have h5 := hI.2.2.2.2.1
    have mv : (q pt = 0 ∨ cr pt < z (8 * pt)) → wp_X5_moveOn a b c d w p g (fun g6 s7 s8 => wpl_X5_spend_7 K m x1 (nI rest) (nI dn) (nI v + 1) a b g6 d w s7 s8) := fun hc => by
      refine x_moveOn hC hI (fun c' hC' => ?_)
      rw [nI_1]
      exact P1 q z _ sv _ 0 rest dn (v + 1) m a b c' d w _ _ hm (by omega) hr (by omega) hC' (I_move hI hc) hcap (hs.1 hc)
    rcases Nat.lt_or_ge u 8 with q8 | q8
    · refine ⟨fun y => absurd y (by rw [show (8 : Int32) = nI 8 from rfl, nI_leI (by decide) (by omega)]; omega), fun _ => x_covered hC hI (fun hc => ⟨fun _ => mv hc, fun y => absurd rfl y⟩) (fun hq hz => ⟨fun y => absurd y one_ne, fun _ => ?_⟩)⟩
      have e8 : p * 8 = nI (8 * pt) := by rw [hC.2.2.2.2.2.1, show (8 : Int32) = nI 8 from rfl, pk_mul, Nat.mul_comm]
      have ha0 := hC.2.1 pt 0 h5 hq
      rw [Nat.add_zero] at ha0
      have hz9 := tk_pos hI.2.1 h5 hq
      have hcp := hcap pt h5
      rw [e8]
      refine ⟨vp_in_nI (by omega) (by decide), ?_⟩
      rw [nI_clamp (by omega), ha0, nI_leI (by omega) (by omega)]
      refine ⟨fun y => ?_, fun y => hE _ _ _ _ _ _ _ _ _ _ _ _ _ _ ((hs.2 hq hz).1 (by omega)) hC⟩
      have h9 := (hs.2 hq hz).2 y
      refine x_removeFirst hC hI hq hz (fun a' b' c' d' w' hC' => ?_)
      rw [pk_sub y, nI_1, nI_1]
      have hI' := I_take (v := cr pt - z (8 * pt)) hI hq hz (by omega) (Nat.le_refl _)
      have hcap' := hcap.take (p2 := pt) h5 hq hz9.2
      have g1 := hgt hq
      rcases Nat.lt_or_ge 1 (q pt) with y1 | y1
      · have hs' := h9.2 y1
        refine ih.2 _ _ _ _ pt gt (rest - z (8 * pt)) (dn + 1) v m (u + 1) k a' b' c' d' w' p g (by omega) (by omega) (by omega) (by omega) (by rw [nup_s]; omega) (by omega) (by omega) (fun _ => g1) hC' hI' hcap' ?_
        have h0 := hs'.2 (sm_pos (i := pt) h5 (by rw [nup_s]; omega))
        rw [if_neg (by omega), if_neg (by omega)] at h0
        exact h0
      · have q1 : q pt = 1 := by omega
        have hs' := h9.1 q1
        -- the queue is empty now: the next test fails and the pointer moves
        obtain ⟨k2, rfl⟩ : ∃ k2, k = k2 + 1 := ⟨k - 1, by omega⟩
        have hmv : wp_X5_moveOn a' b' c' d' w' p g (fun g6 s7 s8 => wpl_X5_spend_7 K m x1 (nI (rest - z (8 * pt))) (nI (dn + 1)) (nI v + 1) a' b' g6 d' w' s7 s8) := by
          have hz0 : nup q pt (q pt - 1) pt = 0 := by rw [nup_s]; omega
          refine x_moveOn hC' hI' (fun c'' hC'' => ?_)
          rw [mvc_last (m := 0) q1] at hC''
          have hI'' := I_move hI' (Or.inl hz0)
          rw [mvc_last (m := 0) q1] at hI''
          rw [nI_1]
          exact P1 _ _ _ _ _ 0 (rest - z (8 * pt)) (dn + 1) (v + 1) m a' b' c'' d' w' _ _ hm (by omega) (by omega) (by omega) hC'' hI'' hcap' hs'
        rw [wpl_X5_spend_29]
        rcases Nat.lt_or_ge (u + 1) 8 with q9 | q9
        · refine ⟨fun y => absurd y (by rw [show (8 : Int32) = nI 8 from rfl, nI_leI (by decide) (by omega)]; omega), fun _ => x_covered hC' hI' (fun hc => ⟨fun _ => hmv, fun y => absurd rfl y⟩) (fun hq2 _ => ?_)⟩
          rw [nup_s] at hq2
          omega
        · exact ⟨fun _ => hmv, fun y => absurd (by rw [show (8 : Int32) = nI 8 from rfl, nI_leI (by decide) (by omega)]; omega) y⟩
    · have : q pt = 0 := by omega
      exact ⟨fun _ => mv (Or.inl this), fun y => absurd (by rw [show (8 : Int32) = nI 8 from rfl, nI_leI (by decide) (by omega)]; omega) y⟩
theorem x_spend {A : KA} {K : KS} (hE : EndS A K) {q z cr sv : Nat → Nat} {pt gt rest n : Nat} {a b c d : Nat → Int32} {w p g : Int32} (hn : n ≤ 9999) (hr : rest < 2 ^ 19) (hC : SrvC q z cr sv pt gt a b c d w p g) (hI : SrvI q z cr sv pt gt) (hcap : Cap q sv pt) (hs : Srv n q z cr sv pt gt rest 0 A) : wp_X5_spend a b c d w p g (nI rest) K := by
  rw [wp_X5_spend]
  exact ⟨n + 1, (x_spend_n A K hE (nI rest) n).1 q z cr sv pt gt rest 0 0 (n + 1) a b c d w p g (by omega) (by omega) (by omega) (by omega) hC hI hcap hs⟩
