/-! the cases of the law: reads with arguments -/
section CS2
variable {B L : Nat} {xs : Nat → Int32} {J : JT} {x3 : Int32} {ec : Nat → Int32} {a0 : Nat → Nat} {n0 : Nat → Int32} {r0 : Nat → Nat → Int32} {s : Int32} {a1 : Nat → Nat} {n1 : Nat → Int32} {r1 : Nat → Nat → Int32} {a2 : Nat → Nat} {n2 : Nat → Int32} {r2 : Nat → Nat → Int32} {a3 : Nat → Nat} {n3 : Nat → Int32} {r3 : Nat → Nat → Int32} {f g : Nat → Int32} {sm : Int32} {em : Nat → Int32} {hh : Int64}
theorem cs_segmentSize (hv1 : vp_in (x3 + 1) L) (hv2 : vp_in (x3 + 2) L) (hI : Inv B ec n0 r0 s n1 r1 n2 r2 n3 r3 f g sm em) (hJ : Goes9 B (x3 + 5) J) : wc_327 L xs J x3 ec a0 n0 r0 s a1 n1 r1 a2 n2 r2 a3 n3 r3 f g sm em hh := by
  rw [wc_327]
  refine ⟨hv1, hv2, ?_⟩
  generalize xs (x3 + 1).toNatClampNeg = x
  generalize xs (x3 + 2).toNatClampNeg = y
  rw [wp_X8_segmentSize]
  rcases place_cases x y with h | ⟨c, p, hc, hp, rfl, rfl⟩
  · refine x_isPlace_out h ⟨fun z => absurd rfl z, fun _ => x_fail fc2 ⟨hv1, hv2, ?_⟩⟩
    rw [wp_X9_segmentSize]
    exact m_isPort_out h ⟨fun z => absurd rfl z, fun _ => m_fails fc2 ⟨fun _ => hJ _ _ _ _ _ _ _ _ _ _ _ _ _ _ _ _ _ _ _ (hI.err (by decide)), fun y => y rfl⟩⟩
  · obtain ⟨s9, -, -, -, -, hS, -⟩ := id hI
    obtain ⟨t, ky, O, Q, q, z, cr, sv, LL, U, pt, gt, hT, hK, ho, hw, hO, hE, ⟨p1, p2, p3, p4, p5⟩, hU, hV⟩ := hS
    have hb := p3 (8 * c + p) (by omega)
    refine x_isPlace_in hc hp ⟨fun _ => x_placeOf (x_isConnected p1 p3 (by omega) (fun z => ⟨fun _ => ⟨hv1, hv2, ?_⟩, fun y => absurd rfl y⟩) (fun z => ⟨fun y => absurd y one_ne, fun _ => ?_⟩)), fun y => absurd y one_ne⟩
    · rw [wp_X9_segmentSize]
      exact m_isPort_in hc hp ⟨fun _ => m_isConnected p2 p3 hc hp (fun _ => ⟨fun _ => ⟨fun _ => hJ _ _ _ _ _ _ _ _ _ _ _ _ _ _ _ _ _ _ _ hI.up, fun y => y rfl⟩, fun y => absurd rfl y⟩) (fun w => by omega), fun y => absurd y one_ne⟩
    · rw [wp_X4_optionAt, nI_clamp (by omega), p1 _ (by omega), show nI (Q (8 * c + p)) - 1 = nI (Q (8 * c + p) - 1) from pk_sub (a := Q (8 * c + p)) (b := 1) (by omega)]
      refine ⟨vp_in_nI (by omega) (by decide), x_sizeOfOption (by omega) ⟨hv1, hv2, ?_⟩⟩
      rw [wp_X9_segmentSize]
      refine m_isPort_in hc hp ⟨fun _ => m_isConnected p2 p3 hc hp (fun w => by omega) (fun _ => ⟨fun y => absurd y one_ne, fun _ => m_sizeAt ⟨vp_in_nI (by omega) (by decide), ?_⟩⟩), fun y => absurd y one_ne⟩
      rw [nI_clamp (by omega), p2 _ (by omega), show nI (Q (8 * c + p)) - 1 = nI (Q (8 * c + p) - 1) from pk_sub (a := Q (8 * c + p)) (b := 1) (by omega)]
      exact m_sizeOf (by omega) ⟨fun _ => hJ _ _ _ _ _ _ _ _ _ _ _ _ _ _ _ _ _ _ _ hI.up, fun y => y rfl⟩
theorem nI_nm1 {a : Nat} (h : a < 2 ^ 31) : ¬ nI a = -1 := fun y => absurd (show nI a < 0 by rw [y]; decide) (nI_pos h)
theorem cs_entryAge (hB : B ≤ 600) (hv1 : vp_in (x3 + 1) L) (hv2 : vp_in (x3 + 2) L) (hI : Inv B ec n0 r0 s n1 r1 n2 r2 n3 r3 f g sm em) (hJ : Goes9 B (x3 + 5) J) : wc_386 L xs J x3 ec a0 n0 r0 s a1 n1 r1 a2 n2 r2 a3 n3 r3 f g sm em hh := by
  rw [wc_386]
  refine ⟨hv1, hv2, ?_⟩
  generalize xs (x3 + 1).toNatClampNeg = x
  generalize xs (x3 + 2).toNatClampNeg = y
  rw [wp_X8_entryAge]
  rcases place_cases x y with h | ⟨c, p, hc, hp, rfl, rfl⟩
  · refine x_isPlace_out h ⟨fun z => absurd rfl z, fun _ => x_fail fc2 ⟨hv1, hv2, ?_⟩⟩
    rw [wp_X9_entryAge]
    exact m_isPort_out h ⟨fun z => absurd rfl z, fun _ => m_fails fc2 ⟨fun _ => hJ _ _ _ _ _ _ _ _ _ _ _ _ _ _ _ _ _ _ _ (hI.err (by decide)), fun y => y rfl⟩⟩
  · obtain ⟨s9, -, -, -, -, hS, -⟩ := id hI
    obtain ⟨t, ky, O, Q, q, z, cr, sv, LL, U, pt, gt, ⟨h1, h2, h3⟩, hK, ho, hw, hO, ⟨e1, e2, e3, e4⟩, hP, hU, hV⟩ := hS
    have hl4 := e4.1.1
    refine x_isPlace_in hc hp ⟨fun _ => x_placeOf ?_, fun y => absurd y one_ne⟩
    rw [e2, h2]
    refine x_ageOf e1 hl4 (fun e he => (e4.1.2.2 e he).1) (by omega) (fun i e hi he => ⟨hv1, hv2, ?_⟩) (fun hn => ⟨hv1, hv2, ?_⟩)
    · rw [wp_X9_entryAge]
      refine m_isPort_in hc hp ⟨fun _ => m_entryOf e3 e4.1 hc hp (fun j d hj hd => ⟨fun _ => ?_, fun y => absurd y (nI_nm1 (by have := (List.getElem?_eq_some_iff.mp hj).1; omega))⟩) (fun hn => absurd he (hn e (List.mem_of_getElem? hi))), fun y => absurd y one_ne⟩
      have ij := e4.1.2.1 i j e d hi hj (by omega)
      subst ij
      rw [hi] at hj; cases hj
      have hi4 := (List.getElem?_eq_some_iff.mp hi).1
      rw [show (24 : Int32) = nI 24 from rfl, show (4 : Int32) = nI 4 from rfl, show (3 : Int32) = nI 3 from rfl, pk_mul, nI_add, nI_add, nI_clamp (by omega), h3, (e3.2 i e hi).2.2.2]
      exact ⟨vp_in_nI (by omega) (by decide), fun _ => hJ _ _ _ _ _ _ _ _ _ _ _ _ _ _ _ _ _ _ _ hI.up, fun y => y rfl⟩
    · rw [wp_X9_entryAge]
      refine m_isPort_in hc hp ⟨fun _ => m_entryOf e3 e4.1 hc hp (fun j d hj hd => absurd hd (hn d (List.mem_of_getElem? hj))) (fun _ => ⟨fun y => absurd rfl y, fun _ => ⟨fun _ => hJ _ _ _ _ _ _ _ _ _ _ _ _ _ _ _ _ _ _ _ hI.up, fun y => y rfl⟩⟩), fun y => absurd y one_ne⟩
theorem cs_cookieAge (hB : B ≤ 600) (hv1 : vp_in (x3 + 1) L) (hI : Inv B ec n0 r0 s n1 r1 n2 r2 n3 r3 f g sm em) (hJ : Goes9 B (x3 + 5) J) : wc_514 L xs J x3 ec a0 n0 r0 s a1 n1 r1 a2 n2 r2 a3 n3 r3 f g sm em hh := by
  rw [wc_514]
  refine ⟨hv1, ?_⟩
  generalize xs (x3 + 1).toNatClampNeg = x
  rw [wp_X8_cookieAge]
  rcases cookie_cases x with h | ⟨c, hc, rfl⟩
  · refine x_isCookie_out h ⟨fun z => absurd rfl z, fun _ => x_fail fc2 ⟨hv1, ?_⟩⟩
    rw [wp_X9_cookieAge]
    exact m_isCookie_out h ⟨fun _ => m_fails fc2 ⟨fun _ => hJ _ _ _ _ _ _ _ _ _ _ _ _ _ _ _ _ _ _ _ (hI.err (by decide)), fun y => y rfl⟩, fun z => absurd rfl z⟩
  · obtain ⟨s9, -, -, -, -, hS, -⟩ := id hI
    obtain ⟨t, ky, O, Q, q, z, cr, sv, LL, U, pt, gt, ⟨h1, h2, h3⟩, hK, ho, hw, hO, hE, hP, hU, hV⟩ := hS
    refine x_isCookie_in hc ⟨fun _ => ?_, fun y => absurd y one_ne⟩
    rw [wp_X6_currentEpoch, h2, ep_eq (by omega)]
    refine x_age hc (by omega) ⟨hv1, ?_⟩
    rw [wp_X9_cookieAge]
    exact m_isCookie_in hc ⟨fun y => absurd y one_ne, fun _ => m_ageOf h3 (by omega) hc ⟨fun _ => hJ _ _ _ _ _ _ _ _ _ _ _ _ _ _ _ _ _ _ _ hI.up, fun y => y rfl⟩⟩
theorem optN_lt (c : Nat) : optN c < 8 := Nat.mod_lt _ (by decide)
theorem cs_cookieSize (hv1 : vp_in (x3 + 1) L) (hI : Inv B ec n0 r0 s n1 r1 n2 r2 n3 r3 f g sm em) (hJ : Goes9 B (x3 + 5) J) : wc_537 L xs J x3 ec a0 n0 r0 s a1 n1 r1 a2 n2 r2 a3 n3 r3 f g sm em hh := by
  rw [wc_537]
  refine ⟨hv1, ?_⟩
  generalize xs (x3 + 1).toNatClampNeg = x
  rw [wp_X8_cookieSize]
  rcases cookie_cases x with h | ⟨c, hc, rfl⟩
  · refine x_isCookie_out h ⟨fun z => absurd rfl z, fun _ => x_fail fc2 ⟨hv1, ?_⟩⟩
    rw [wp_X9_cookieSize]
    exact m_isCookie_out h ⟨fun _ => m_fails fc2 ⟨fun _ => hJ _ _ _ _ _ _ _ _ _ _ _ _ _ _ _ _ _ _ _ (hI.err (by decide)), fun y => y rfl⟩, fun z => absurd rfl z⟩
  · refine x_isCookie_in hc ⟨fun _ => x_optionOf hc (x_sizeOfOption (optN_lt c) ⟨hv1, ?_⟩), fun y => absurd y one_ne⟩
    rw [wp_X9_cookieSize]
    exact m_isCookie_in hc ⟨fun y => absurd y one_ne, fun _ => m_optionOf hc (m_sizeOf (optN_lt c) ⟨fun _ => hJ _ _ _ _ _ _ _ _ _ _ _ _ _ _ _ _ _ _ _ hI.up, fun y => y rfl⟩)⟩
end CS2
