/-! the cases of the law: reads -/
def Inv (B : Nat) (ec : Nat → Int32) (n0 : Nat → Int32) (r0 : Nat → Nat → Int32) (s : Int32) (n1 : Nat → Int32) (r1 : Nat → Nat → Int32) (n2 : Nat → Int32) (r2 : Nat → Nat → Int32) (n3 : Nat → Int32) (r3 : Nat → Nat → Int32) (f g : Nat → Int32) (sm : Int32) (em : Nat → Int32) : Prop :=
  ∃ s9 : Nat, s9 ≤ 3 ∧ s = nI s9 ∧ sm = nI s9 ∧ (∀ j, j < 9 → em j = ec j) ∧ Sim B n0 r0 f ∧ Past B s9 n1 r1 n2 r2 n3 r3 g
abbrev JT : Type := Int32 → (Nat → Int32) → (Nat → Nat) → (Nat → Int32) → (Nat → Nat → Int32) → Int32 → (Nat → Nat) → (Nat → Int32) → (Nat → Nat → Int32) → (Nat → Nat) → (Nat → Int32) → (Nat → Nat → Int32) → (Nat → Nat) → (Nat → Int32) → (Nat → Nat → Int32) → (Nat → Int32) → (Nat → Int32) → Int32 → (Nat → Int32) → Int64 → Prop
def Goes9 (B : Nat) (x : Int32) (J : JT) : Prop := ∀ (ec : Nat → Int32) (a0 : Nat → Nat) (n0 : Nat → Int32) (r0 : Nat → Nat → Int32) (s : Int32) (a1 : Nat → Nat) (n1 : Nat → Int32) (r1 : Nat → Nat → Int32) (a2 : Nat → Nat) (n2 : Nat → Int32) (r2 : Nat → Nat → Int32) (a3 : Nat → Nat) (n3 : Nat → Int32) (r3 : Nat → Nat → Int32) (f g : Nat → Int32) (sm : Int32) (em : Nat → Int32) (hh : Int64), Inv (B + 1) ec n0 r0 s n1 r1 n2 r2 n3 r3 f g sm em → J x ec a0 n0 r0 s a1 n1 r1 a2 n2 r2 a3 n3 r3 f g sm em hh
def FC (c : Int32) (k : Nat) : Prop := ¬ c < -10 ∧ ¬ -2 < c ∧ (-2) - c = nI k ∧ k < 9
theorem x_fail {c : Int32} {k : Nat} (h : FC c k) {ec : Nat → Int32} {K : Int32 → (Nat → Int32) → Prop} (kk : K c (upd ec k (ec k + 1))) : wp_X8_fail ec c K := by
  obtain ⟨h1, h2, h3, h4⟩ := h
  rw [wp_X8_fail, wp_X8_isWithin, h3, nI_clamp (by omega)]
  exact ⟨fun z => absurd z h1, fun _ => ⟨fun z => absurd z h2, fun _ => ⟨fun z => absurd z one_ne, fun _ => ⟨vp_in_nI h4 (by decide), vp_in_nI h4 (by decide), fun f3 e3 => by subst e3; exact kk⟩⟩⟩⟩
theorem m_fails {c : Int32} {k : Nat} (h : FC c k) {f g em : Nat → Int32} {s : Int32} {hh : Int64} {K : Int32 → (Nat → Int32) → Prop} (kk : K c (upd em k (em k + 1))) : wp_X9_fails f g s em hh c K := by
  obtain ⟨h1, h2, h3, h4⟩ := h
  rw [wp_X9_fails, h3, nI_clamp (by omega)]
  exact ⟨vp_in_nI h4 (by decide), vp_in_nI h4 (by decide), fun f3 e3 => by subst e3; exact kk⟩
theorem err_up {ec em : Nat → Int32} (h : ∀ j, j < 9 → em j = ec j) {k : Nat} (hk : k < 9) : ∀ j, j < 9 → upd em k (em k + 1) j = upd ec k (ec k + 1) j := fun j hj => by
  by_cases e : j = k
  · subst e; rw [pk_us, pk_us, h j hj]
  · rw [pk_un e, pk_un e]; exact h j hj
section CS
variable {B L : Nat} {xs : Nat → Int32} {J : JT} {x3 : Int32} {ec : Nat → Int32} {a0 : Nat → Nat} {n0 : Nat → Int32} {r0 : Nat → Nat → Int32} {s : Int32} {a1 : Nat → Nat} {n1 : Nat → Int32} {r1 : Nat → Nat → Int32} {a2 : Nat → Nat} {n2 : Nat → Int32} {r2 : Nat → Nat → Int32} {a3 : Nat → Nat} {n3 : Nat → Int32} {r3 : Nat → Nat → Int32} {f g : Nat → Int32} {sm : Int32} {em : Nat → Int32} {hh : Int64}
theorem Inv.up (h : Inv B ec n0 r0 s n1 r1 n2 r2 n3 r3 f g sm em) : Inv (B + 1) ec n0 r0 s n1 r1 n2 r2 n3 r3 f g sm em := by
  obtain ⟨s9, h1, h2, h3, h4, h5, h6⟩ := h
  exact ⟨s9, h1, h2, h3, h4, h5.mono (by omega), h6.mono (by omega)⟩
theorem Inv.err (h : Inv B ec n0 r0 s n1 r1 n2 r2 n3 r3 f g sm em) {k : Nat} (hk : k < 9) : Inv (B + 1) (upd ec k (ec k + 1)) n0 r0 s n1 r1 n2 r2 n3 r3 f g sm (upd em k (em k + 1)) := by
  obtain ⟨s9, h1, h2, h3, h4, h5, h6⟩ := h
  exact ⟨s9, h1, h2, h3, err_up h4 hk, h5.mono (by omega), h6.mono (by omega)⟩
theorem fc2 : FC (-2) 0 := by unfold FC; decide
theorem fc3 : FC (-3) 1 := by unfold FC; decide
theorem fc4 : FC (-4) 2 := by unfold FC; decide
theorem fc5 : FC (-5) 3 := by unfold FC; decide
theorem fc6 : FC (-6) 4 := by unfold FC; decide
theorem fc7 : FC (-7) 5 := by unfold FC; decide
theorem fc8 : FC (-8) 6 := by unfold FC; decide
theorem fc9 : FC (-9) 7 := by unfold FC; decide
theorem fc10 : FC (-10) 8 := by unfold FC; decide
theorem cs_connections (hI : Inv B ec n0 r0 s n1 r1 n2 r2 n3 r3 f g sm em) (hJ : Goes9 B (x3 + 5) J) : wc_360 L xs J x3 ec a0 n0 r0 s a1 n1 r1 a2 n2 r2 a3 n3 r3 f g sm em hh := by
  rw [wc_360, wp_X8_connections]
  obtain ⟨s9, -, -, -, -, hS, -⟩ := id hI
  obtain ⟨t, ky, O, Q, q, z, cr, sv, LL, U, pt, gt, hT, hK, ho, hw, hO, hE, ⟨p1, p2, p3, p4, p5⟩, hU, hV⟩ := hS
  rw [p4]
  exact m_connections p2 p3 ⟨fun _ => hJ _ _ _ _ _ _ _ _ _ _ _ _ _ _ _ _ _ _ _ hI.up, fun y => y rfl⟩
theorem cs_halfOpen (hI : Inv B ec n0 r0 s n1 r1 n2 r2 n3 r3 f g sm em) (hJ : Goes9 B (x3 + 5) J) : wc_373 L xs J x3 ec a0 n0 r0 s a1 n1 r1 a2 n2 r2 a3 n3 r3 f g sm em hh := by
  rw [wc_373, wp_X8_halfOpen, wp_X9_halfOpen]
  obtain ⟨s9, -, -, -, -, hS, -⟩ := id hI
  obtain ⟨t, ky, O, Q, q, z, cr, sv, LL, U, pt, gt, hT, hK, ho, hw, hO, ⟨e1, e2, e3, e4⟩, hP, hU, hV⟩ := hS
  rw [e2, e3.1]
  exact ⟨fun _ => hJ _ _ _ _ _ _ _ _ _ _ _ _ _ _ _ _ _ _ _ hI.up, fun y => y rfl⟩
theorem cs_remembered (hI : Inv B ec n0 r0 s n1 r1 n2 r2 n3 r3 f g sm em) (hJ : Goes9 B (x3 + 5) J) : wc_419 L xs J x3 ec a0 n0 r0 s a1 n1 r1 a2 n2 r2 a3 n3 r3 f g sm em hh := by
  rw [wc_419, wp_X8_remembered, wp_X9_remembered]
  obtain ⟨s9, -, -, -, -, hS, -⟩ := id hI
  obtain ⟨t, ky, O, Q, q, z, cr, sv, LL, U, pt, gt, hT, hK, ho, hw, hO, hE, hP, ⟨u1, u2, u3, u4⟩, hV⟩ := hS
  rw [u2, u3.1]
  exact ⟨fun _ => hJ _ _ _ _ _ _ _ _ _ _ _ _ _ _ _ _ _ _ _ hI.up, fun y => y rfl⟩
theorem cs_epoch (hI : Inv B ec n0 r0 s n1 r1 n2 r2 n3 r3 f g sm em) (hJ : Goes9 B (x3 + 5) J) : wc_432 L xs J x3 ec a0 n0 r0 s a1 n1 r1 a2 n2 r2 a3 n3 r3 f g sm em hh := by
  rw [wc_432, wp_X8_epoch, wp_X6_currentEpoch, wp_X9_epoch, wp_X9_epochNow]
  obtain ⟨s9, -, -, -, -, hS, -⟩ := id hI
  obtain ⟨t, ky, O, Q, q, z, cr, sv, LL, U, pt, gt, ⟨h1, h2, h3⟩, hK, ho, hw, hO, hE, hP, hU, hV⟩ := hS
  rw [h2, h3]
  exact ⟨fun _ => hJ _ _ _ _ _ _ _ _ _ _ _ _ _ _ _ _ _ _ _ hI.up, fun y => y rfl⟩
theorem cs_load (hI : Inv B ec n0 r0 s n1 r1 n2 r2 n3 r3 f g sm em) (hJ : Goes9 B (x3 + 5) J) : wc_445 L xs J x3 ec a0 n0 r0 s a1 n1 r1 a2 n2 r2 a3 n3 r3 f g sm em hh := by
  rw [wc_445, wp_X8_load]
  obtain ⟨s9, -, -, -, -, hS, -⟩ := id hI
  obtain ⟨t, ky, O, Q, q, z, cr, sv, LL, U, pt, gt, hT, hK, ho, hw, ⟨o1, o2, o3⟩, hE, hP, hU, hV⟩ := hS
  refine x_total o1 ?_
  rw [wp_X9_load]
  exact m_loadNow o2 ⟨fun _ => hJ _ _ _ _ _ _ _ _ _ _ _ _ _ _ _ _ _ _ _ hI.up, fun y => y rfl⟩
theorem cs_difficulty (hB : B ≤ 600) (hI : Inv B ec n0 r0 s n1 r1 n2 r2 n3 r3 f g sm em) (hJ : Goes9 B (x3 + 5) J) : wc_458 L xs J x3 ec a0 n0 r0 s a1 n1 r1 a2 n2 r2 a3 n3 r3 f g sm em hh := by
  rw [wc_458, wp_X8_difficulty]
  obtain ⟨s9, -, -, -, -, hS, -⟩ := id hI
  obtain ⟨t, ky, O, Q, q, z, cr, sv, LL, U, pt, gt, hT, hK, ho, hw, ⟨o1, o2, o3⟩, hE, hP, hU, hV⟩ := hS
  refine x_difficulty o1 (by omega) ?_
  rw [wp_X9_difficulty]
  exact m_difficulty o2 (by omega) ⟨fun _ => hJ _ _ _ _ _ _ _ _ _ _ _ _ _ _ _ _ _ _ _ hI.up, fun y => y rfl⟩
theorem cs_work (hI : Inv B ec n0 r0 s n1 r1 n2 r2 n3 r3 f g sm em) (hJ : Goes9 B (x3 + 5) J) : wc_560 L xs J x3 ec a0 n0 r0 s a1 n1 r1 a2 n2 r2 a3 n3 r3 f g sm em hh := by
  rw [wc_560, wp_X8_work, wp_X9_work]
  obtain ⟨s9, -, -, -, -, hS, -⟩ := id hI
  obtain ⟨t, ky, O, Q, q, z, cr, sv, LL, U, pt, gt, hT, hK, ho, hw, hO, hE, hP, hU, hV⟩ := hS
  rw [hw]
  exact ⟨fun _ => hJ _ _ _ _ _ _ _ _ _ _ _ _ _ _ _ _ _ _ _ hI.up, fun y => y rfl⟩
theorem x_isClient_out {x : Int32} {K : Int32 → Prop} (h : x < 0 ∨ 15 < x) (k : K 0) : wp_X8_isClient x K := by
  rw [wp_X8_isClient]; exact x_within_out h ⟨rfl, k⟩
theorem x_isClient_in {c : Nat} {K : Int32 → Prop} (h : c < 16) (k : K 1) : wp_X8_isClient (nI c) K := by
  rw [wp_X8_isClient]; exact x_within_in (l := 0) (h := 15) rfl rfl rfl (by omega) (by omega) (by decide) ⟨rfl, k⟩
theorem m_isClient_out {x : Int32} {K : Int32 → Prop} (h : x < 0 ∨ 15 < x) (k : K 0) : wp_X9_isClient x K := by
  rw [wp_X9_isClient]; exact m_within_out h ⟨rfl, k⟩
theorem m_isClient_in {c : Nat} {K : Int32 → Prop} (h : c < 16) (k : K 1) : wp_X9_isClient (nI c) K := by
  rw [wp_X9_isClient]; exact m_within_in (l := 0) (h := 15) rfl rfl rfl (by omega) (by omega) (by decide) ⟨rfl, k⟩
theorem x_isCookie_out {x : Int32} {K : Int32 → Prop} (h : x < 0 ∨ 1048575 < x) (k : K 0) : wp_X8_isCookie x K := by
  rw [wp_X8_isCookie]; exact x_within_out h ⟨rfl, k⟩
theorem x_isCookie_in {c : Nat} {K : Int32 → Prop} (h : c < 1048576) (k : K 1) : wp_X8_isCookie (nI c) K := by
  rw [wp_X8_isCookie]; exact x_within_in (l := 0) (h := 1048575) rfl rfl rfl (by omega) (by omega) (by decide) ⟨rfl, k⟩
theorem m_isCookie_out {x : Int32} {K : Int32 → Prop} (h : x < 0 ∨ 1048575 < x) (k : K 0) : wp_X9_isCookie x K := by
  rw [wp_X9_isCookie]; exact m_within_out h ⟨rfl, k⟩
theorem m_isCookie_in {c : Nat} {K : Int32 → Prop} (h : c < 1048576) (k : K 1) : wp_X9_isCookie (nI c) K := by
  rw [wp_X9_isCookie]; exact m_within_in (l := 0) (h := 1048575) rfl rfl rfl (by omega) (by omega) (by decide) ⟨rfl, k⟩
theorem client_cases (x : Int32) : (x < 0 ∨ 15 < x) ∨ ∃ c : Nat, c < 16 ∧ x = nI c := by
  rcases rng (x := x) (lo := 0) (hi := 15) (l := 0) (h := 15) rfl rfl (by decide) (by decide) with h | ⟨c, -, hc, e⟩
  · exact Or.inl h
  · exact Or.inr ⟨c, by omega, e⟩
theorem cookie_cases (x : Int32) : (x < 0 ∨ 1048575 < x) ∨ ∃ c : Nat, c < 1048576 ∧ x = nI c := by
  rcases rng (x := x) (lo := 0) (hi := 1048575) (l := 0) (h := 1048575) rfl rfl (by decide) (by decide) with h | ⟨c, -, hc, e⟩
  · exact Or.inl h
  · exact Or.inr ⟨c, by omega, e⟩
theorem cs_queued (hv1 : vp_in (x3 + 1) L) (hI : Inv B ec n0 r0 s n1 r1 n2 r2 n3 r3 f g sm em) (hJ : Goes9 B (x3 + 5) J) : wc_629 L xs J x3 ec a0 n0 r0 s a1 n1 r1 a2 n2 r2 a3 n3 r3 f g sm em hh := by
  rw [wc_629]
  refine ⟨hv1, ?_⟩
  generalize xs (x3 + 1).toNatClampNeg = x
  rw [wp_X8_queued]
  rcases client_cases x with h | ⟨c, hc, rfl⟩
  · refine x_isClient_out h ⟨fun _ => x_fail fc2 ⟨hv1, ?_⟩, fun y => absurd rfl y⟩
    rw [wp_X9_queued]
    exact m_isClient_out h ⟨fun _ => m_fails fc2 ⟨fun _ => hJ _ _ _ _ _ _ _ _ _ _ _ _ _ _ _ _ _ _ _ (hI.err (by decide)), fun y => y rfl⟩, fun y => absurd rfl y⟩
  · obtain ⟨s9, -, -, -, -, hS, -⟩ := id hI
    obtain ⟨t, ky, O, Q, q, z, cr, sv, LL, U, pt, gt, hT, hK, ho, hw, hO, hE, hP, hU, ⟨v1, v2, v3, v4⟩⟩ := hS
    refine x_isClient_in hc ⟨fun y => absurd y one_ne, fun _ => ⟨vp_in_nI hc (by decide), hv1, ?_⟩⟩
    rw [wp_X9_queued]
    refine m_isClient_in hc ⟨fun y => absurd y one_ne, fun _ => ?_⟩
    rw [show (228 : Int32) + nI c = nI (228 + c) from ix, nI_clamp (by omega), nI_clamp (by omega), v1.1 c hc, v2.1 c hc]
    exact ⟨vp_in_nI (by omega) (by decide), fun _ => hJ _ _ _ _ _ _ _ _ _ _ _ _ _ _ _ _ _ _ _ hI.up, fun y => y rfl⟩
theorem cs_credit (hv1 : vp_in (x3 + 1) L) (hI : Inv B ec n0 r0 s n1 r1 n2 r2 n3 r3 f g sm em) (hJ : Goes9 B (x3 + 5) J) : wc_652 L xs J x3 ec a0 n0 r0 s a1 n1 r1 a2 n2 r2 a3 n3 r3 f g sm em hh := by
  rw [wc_652]
  refine ⟨hv1, ?_⟩
  generalize xs (x3 + 1).toNatClampNeg = x
  rw [wp_X8_credit]
  rcases client_cases x with h | ⟨c, hc, rfl⟩
  · refine x_isClient_out h ⟨fun _ => x_fail fc2 ⟨hv1, ?_⟩, fun y => absurd rfl y⟩
    rw [wp_X9_credit]
    exact m_isClient_out h ⟨fun _ => m_fails fc2 ⟨fun _ => hJ _ _ _ _ _ _ _ _ _ _ _ _ _ _ _ _ _ _ _ (hI.err (by decide)), fun y => y rfl⟩, fun y => absurd rfl y⟩
  · obtain ⟨s9, -, -, -, -, hS, -⟩ := id hI
    obtain ⟨t, ky, O, Q, q, z, cr, sv, LL, U, pt, gt, hT, hK, ho, hw, hO, hE, hP, hU, ⟨v1, v2, v3, v4⟩⟩ := hS
    refine x_isClient_in hc ⟨fun y => absurd y one_ne, fun _ => ⟨vp_in_nI hc (by decide), hv1, ?_⟩⟩
    rw [wp_X9_credit]
    refine m_isClient_in hc ⟨fun y => absurd y one_ne, fun _ => ?_⟩
    rw [show (372 : Int32) + nI c = nI (372 + c) from ix, nI_clamp (by omega), nI_clamp (by omega), v1.2.2.1 c hc, v2.2.2.1 c hc]
    exact ⟨vp_in_nI (by omega) (by decide), fun _ => hJ _ _ _ _ _ _ _ _ _ _ _ _ _ _ _ _ _ _ _ hI.up, fun y => y rfl⟩
theorem cs_served (hv1 : vp_in (x3 + 1) L) (hI : Inv B ec n0 r0 s n1 r1 n2 r2 n3 r3 f g sm em) (hJ : Goes9 B (x3 + 5) J) : wc_675 L xs J x3 ec a0 n0 r0 s a1 n1 r1 a2 n2 r2 a3 n3 r3 f g sm em hh := by
  rw [wc_675]
  refine ⟨hv1, ?_⟩
  generalize xs (x3 + 1).toNatClampNeg = x
  rw [wp_X8_served]
  rcases client_cases x with h | ⟨c, hc, rfl⟩
  · refine x_isClient_out h ⟨fun _ => x_fail fc2 ⟨hv1, ?_⟩, fun y => absurd rfl y⟩
    rw [wp_X9_served]
    exact m_isClient_out h ⟨fun _ => m_fails fc2 ⟨fun _ => hJ _ _ _ _ _ _ _ _ _ _ _ _ _ _ _ _ _ _ _ (hI.err (by decide)), fun y => y rfl⟩, fun y => absurd rfl y⟩
  · obtain ⟨s9, -, -, -, -, hS, -⟩ := id hI
    obtain ⟨t, ky, O, Q, q, z, cr, sv, LL, U, pt, gt, hT, hK, ho, hw, hO, hE, hP, hU, ⟨v1, v2, v3, v4⟩⟩ := hS
    refine x_isClient_in hc ⟨fun y => absurd y one_ne, fun _ => ⟨vp_in_nI hc (by decide), hv1, ?_⟩⟩
    rw [wp_X9_served]
    refine m_isClient_in hc ⟨fun y => absurd y one_ne, fun _ => ?_⟩
    rw [show (388 : Int32) + nI c = nI (388 + c) from ix, nI_clamp (by omega), nI_clamp (by omega), v1.2.2.2.1 c hc, v2.2.2.2.1 c hc]
    exact ⟨vp_in_nI (by omega) (by decide), fun _ => hJ _ _ _ _ _ _ _ _ _ _ _ _ _ _ _ _ _ _ _ hI.up, fun y => y rfl⟩
end CS
