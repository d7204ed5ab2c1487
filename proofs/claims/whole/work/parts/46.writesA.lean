/-! the cases of the law: solve, errorCount, rotateKey, advance -/
theorem nxt_le (s : Nat) : nxt s ≤ 3 := by unfold nxt; split <;> omega
theorem PM.out {Q : Nat → Nat} {f f' : Nat → Int32} (h : PM Q f) (hs : ∀ j, 40 ≤ j → j < 168 → f' j = f j) : PM Q f' := fun j hj => by rw [hs _ (by omega) (by omega)]; exact h j hj
theorem SrvM.out {q z cr sv : Nat → Nat} {pt gt : Nat} {f f' : Nat → Int32} (h : SrvM q z cr sv pt gt f) (hI : SrvI q z cr sv pt gt) (h6 : f' 6 = f 6) (h7 : f' 7 = f 7) (hs : ∀ j, 228 ≤ j → j < 404 → f' j = f j) : SrvM q z cr sv pt gt f' := by
  obtain ⟨a1, a2, a3, a4, a5, a6⟩ := h
  refine ⟨fun i hi => by rw [hs _ (by omega) (by omega)]; exact a1 i hi, fun i k hi hk => ?_, fun i hi => by rw [hs _ (by omega) (by omega)]; exact a3 i hi, fun i hi => by rw [hs _ (by omega) (by omega)]; exact a4 i hi, by rw [h6]; exact a5, by rw [h7]; exact a6⟩
  have := hI.1 i hi
  rw [hs _ (by omega) (by omega)]; exact a2 i k hi hk
theorem uq_pw {L : List Ent} : (∀ (i j : Nat) (e d : Ent), L[i]? = some e → L[j]? = some d → e.1 = d.1 → i = j) ↔ L.Pairwise (fun a b => a.1 ≠ b.1) := by
  refine ⟨fun h => List.pairwise_iff_getElem.mpr (fun i j hi hj hij he => ?_), fun h i j e d hi hj he => ?_⟩
  · have := h i j _ _ (List.getElem?_eq_getElem hi) (List.getElem?_eq_getElem hj) he
    omega
  · obtain ⟨hi1, hi2⟩ := List.getElem?_eq_some_iff.mp hi
    obtain ⟨hj1, hj2⟩ := List.getElem?_eq_some_iff.mp hj
    have hp := List.pairwise_iff_getElem.mp h
    rcases Nat.lt_trichotomy i j with x | x | x
    · exact absurd he (by have := hp i j hi1 hj1 x; rw [hi2, hj2] at this; exact this)
    · exact x
    · exact absurd he.symm (by have := hp j i hj1 hi1 x; rw [hi2, hj2] at this; exact this)
theorem EI.filt {L : List Ent} {t t' : Nat} (h : EI L t) (ht : t ≤ t') (P : Ent → Bool) : EI (L.filter P) t' := by
  refine ⟨Nat.le_trans (List.length_filter_le _ _) h.1, uq_pw.mpr ((uq_pw.mp h.2.1).filter P), fun e he => ?_⟩
  have := h.2.2 e (List.mem_filter.mp he).1
  exact ⟨this.1, this.2.1, by omega⟩
section CS3
variable {B L : Nat} {xs : Nat → Int32} {J : JT} {x3 : Int32} {ec : Nat → Int32} {a0 : Nat → Nat} {n0 : Nat → Int32} {r0 : Nat → Nat → Int32} {s : Int32} {a1 : Nat → Nat} {n1 : Nat → Int32} {r1 : Nat → Nat → Int32} {a2 : Nat → Nat} {n2 : Nat → Int32} {r2 : Nat → Nat → Int32} {a3 : Nat → Nat} {n3 : Nat → Int32} {r3 : Nat → Nat → Int32} {f g : Nat → Int32} {sm : Int32} {em : Nat → Int32} {hh : Int64}
theorem Inv.after {s9 : Nat} (he : ∀ j, j < 9 → em j = ec j) (hS : Sim (B + 1) n0 r0 f) (hp : Past B (nxt s9) n1 r1 n2 r2 n3 r3 g) : Inv (B + 1) ec n0 r0 (nI (nxt s9)) n1 r1 n2 r2 n3 r3 f g (nI (nxt s9)) em := ⟨nxt s9, nxt_le s9, rfl, rfl, he, hS, hp.mono (by omega)⟩
theorem x_solve_loop {c d fr : Nat} (hc : c < 1048576) (hd : d ≤ 6) {x : Int32} {K : Int32 → (Nat → Int32) → Prop} (k1 : ∀ i, fr ≤ i → i < 10000 → digN c i % 2 ^ d = 0 → (∀ j, fr ≤ j → j < i → ¬ digN c j % 2 ^ d = 0) → K (nI i) ec) (k2 : (∀ j, fr ≤ j → j < 10000 → ¬ digN c j % 2 ^ d = 0) → K (-1) ec) : ∀ (n i : Nat), i + n = 10001 → fr ≤ i → i ≤ 10000 → (∀ j, fr ≤ j → j < i → ¬ digN c j % 2 ^ d = 0) → wpl_X8_solve_38 K n (nI c) (nI d) x (nI i) ec := by
  intro n
  induction n with
  | zero => intro i h1 h2 h3; omega
  | succ n ih =>
    intro i h1 h2 h3 hn
    rw [wpl_X8_solve_38, show (10000 : Int32) = nI 10000 from rfl, nI_leI (by decide) (by omega)]
    refine ⟨fun w => k2 (fun j a b => hn j a (by omega)), fun w => x_isSolution hc hd (by omega) (fun y => ⟨fun _ => ?_, fun v => absurd rfl v⟩) (fun y => ⟨fun v => absurd v one_ne, fun _ => k1 i h2 (by omega) y hn⟩)⟩
    rw [nI_1]
    refine ih (i + 1) (by omega) (by omega) (by omega) (fun j a b => ?_)
    rcases Nat.lt_or_ge j i with v | v
    · exact hn j a v
    · have : j = i := by omega
      subst this; exact y
theorem m_solve_loop {c d fr : Nat} (hc : c < 1048576) (hd : d ≤ 6) {x : Int32} {K : Int32 → (Nat → Int32) → Prop} (k1 : ∀ i, fr ≤ i → i < 10000 → digN c i % 2 ^ d = 0 → (∀ j, fr ≤ j → j < i → ¬ digN c j % 2 ^ d = 0) → K (nI i) em) (k2 : (∀ j, fr ≤ j → j < 10000 → ¬ digN c j % 2 ^ d = 0) → K (-1) em) : ∀ (n i : Nat), i + n = 10001 → fr ≤ i → i ≤ 10000 → (∀ j, fr ≤ j → j < i → ¬ digN c j % 2 ^ d = 0) → wpl_X9_solve_38 f g sm hh K n (nI c) (nI d) x (nI i) em := by
  intro n
  induction n with
  | zero => intro i h1 h2 h3; omega
  | succ n ih =>
    intro i h1 h2 h3 hn
    rw [wpl_X9_solve_38, show (9999 : Int32) = nI 9999 from rfl, nI_ltI (by decide) (by omega)]
    refine ⟨fun w => ⟨fun _ => k2 (fun j a b => hn j a (by omega)), fun v => absurd w v⟩, fun w => m_isSolution hc hd (by omega) (fun y => ⟨fun v => absurd rfl v, fun _ => ?_⟩) (fun y => ⟨fun _ => ⟨fun v => absurd v w, fun _ => k1 i h2 (by omega) y hn⟩, fun v => absurd v one_ne⟩)⟩
    rw [nI_1]
    refine ih (i + 1) (by omega) (by omega) (by omega) (fun j a b => ?_)
    rcases Nat.lt_or_ge j i with v | v
    · exact hn j a v
    · have : j = i := by omega
      subst this; exact y
theorem cs_solve (hv1 : vp_in (x3 + 1) L) (hv2 : vp_in (x3 + 2) L) (hv3 : vp_in (x3 + 3) L) (hI : Inv B ec n0 r0 s n1 r1 n2 r2 n3 r3 f g sm em) (hJ : Goes9 B (x3 + 5) J) : wc_471 L xs J x3 ec a0 n0 r0 s a1 n1 r1 a2 n2 r2 a3 n3 r3 f g sm em hh := by
  rw [wc_471]
  refine ⟨hv1, hv2, hv3, ?_⟩
  generalize xs (x3 + 1).toNatClampNeg = x
  generalize xs (x3 + 2).toNatClampNeg = y
  generalize xs (x3 + 3).toNatClampNeg = w
  rw [wp_X8_solve]
  rcases cookie_cases x with h | ⟨c, hc, rfl⟩
  · refine x_isCookie_out h ⟨fun _ => x_fail fc2 ⟨hv1, hv2, hv3, ?_⟩, fun z => absurd rfl z⟩
    rw [wp_X9_solve]
    exact m_isCookie_out h ⟨fun _ => m_fails fc2 ⟨fun _ => hJ _ _ _ _ _ _ _ _ _ _ _ _ _ _ _ _ _ _ _ (hI.err (by decide)), fun y => y rfl⟩, fun z => absurd rfl z⟩
  refine x_isCookie_in hc ⟨fun z => absurd z one_ne, fun _ => ?_⟩
  rcases rng (x := y) (lo := 0) (hi := 6) (l := 0) (h := 6) rfl rfl (by decide) (by decide) with h | ⟨d, -, hd, rfl⟩
  · refine x_within_out h ⟨fun _ => x_fail fc2 ⟨hv1, hv2, hv3, ?_⟩, fun z => absurd rfl z⟩
    rw [wp_X9_solve]
    exact m_isCookie_in hc ⟨fun z => absurd z one_ne, fun _ => m_within_out h ⟨fun _ => m_fails fc2 ⟨fun _ => hJ _ _ _ _ _ _ _ _ _ _ _ _ _ _ _ _ _ _ _ (hI.err (by decide)), fun y => y rfl⟩, fun z => absurd rfl z⟩⟩
  refine x_within_in (l := 0) (h := 6) rfl rfl rfl (by omega) hd (by decide) ⟨fun z => absurd z one_ne, fun _ => ?_⟩
  rcases rng (x := w) (lo := 0) (hi := 9999) (l := 0) (h := 9999) rfl rfl (by decide) (by decide) with h | ⟨fr, -, hf, rfl⟩
  · refine x_within_out h ⟨fun z => absurd rfl z, fun _ => x_fail fc2 ⟨hv1, hv2, hv3, ?_⟩⟩
    rw [wp_X9_solve]
    exact m_isCookie_in hc ⟨fun z => absurd z one_ne, fun _ => m_within_in (l := 0) (h := 6) rfl rfl rfl (by omega) hd (by decide) ⟨fun z => absurd z one_ne, fun _ => m_within_out h ⟨fun z => absurd rfl z, fun _ => m_fails fc2 ⟨fun _ => hJ _ _ _ _ _ _ _ _ _ _ _ _ _ _ _ _ _ _ _ (hI.err (by decide)), fun y => y rfl⟩⟩⟩⟩
  refine x_within_in (l := 0) (h := 9999) rfl rfl rfl (by omega) hf (by decide) ⟨fun _ => ⟨10001 - fr, x_solve_loop (fr := fr) hc hd (fun i a b e hn => ⟨hv1, hv2, hv3, ?_⟩) (fun hn => ⟨hv1, hv2, hv3, ?_⟩) _ fr (by omega) (by omega) (by omega) (fun j a b => by omega)⟩, fun z => absurd z one_ne⟩
  · rw [wp_X9_solve]
    refine m_isCookie_in hc ⟨fun z => absurd z one_ne, fun _ => m_within_in (l := 0) (h := 6) rfl rfl rfl (by omega) hd (by decide) ⟨fun z => absurd z one_ne, fun _ => m_within_in (l := 0) (h := 9999) rfl rfl rfl (by omega) hf (by decide) ⟨fun _ => ⟨10001 - fr, m_solve_loop (fr := fr) hc hd (fun i2 a2 b2 e2 hn2 => ?_) (fun hn2 => absurd e (hn2 i a b)) _ fr (by omega) (by omega) (by omega) (fun j a b => by omega)⟩, fun z => absurd z one_ne⟩⟩⟩
    have : i2 = i := by
      rcases Nat.lt_trichotomy i2 i with v | v | v
      · exact absurd e2 (hn i2 a2 v)
      · exact v
      · exact absurd e (hn2 i a v)
    subst this
    exact ⟨fun _ => hJ _ _ _ _ _ _ _ _ _ _ _ _ _ _ _ _ _ _ _ (hI.up), fun y => y rfl⟩
  · rw [wp_X9_solve]
    refine m_isCookie_in hc ⟨fun z => absurd z one_ne, fun _ => m_within_in (l := 0) (h := 6) rfl rfl rfl (by omega) hd (by decide) ⟨fun z => absurd z one_ne, fun _ => m_within_in (l := 0) (h := 9999) rfl rfl rfl (by omega) hf (by decide) ⟨fun _ => ⟨10001 - fr, m_solve_loop (fr := fr) hc hd (fun i2 a2 b2 e2 hn2 => absurd e2 (hn i2 a2 b2)) (fun hn2 => ⟨fun _ => hJ _ _ _ _ _ _ _ _ _ _ _ _ _ _ _ _ _ _ _ (hI.up), fun y => y rfl⟩) _ fr (by omega) (by omega) (by omega) (fun j a b => by omega)⟩, fun z => absurd z one_ne⟩⟩⟩
theorem err_cases (x : Int32) : (x < -10 ∨ -2 < x) ∨ ((¬ x < -10 ∧ ¬ -2 < x) ∧ ∃ k : Nat, k < 9 ∧ -2 - x = nI k) := by
  by_cases a : x < -10
  · exact Or.inl (Or.inl a)
  by_cases b : -2 < x
  · exact Or.inl (Or.inr b)
  refine Or.inr ⟨⟨a, b⟩, ?_⟩
  rw [Int32.lt_iff_toInt_lt] at a b
  have e10 : (-10 : Int32).toInt = -10 := by decide
  have e2 : (-2 : Int32).toInt = -2 := by decide
  rw [e10] at a
  rw [e2] at b
  have e := Int32.ofInt_toInt x
  have hc : x.toInt = -10 ∨ x.toInt = -9 ∨ x.toInt = -8 ∨ x.toInt = -7 ∨ x.toInt = -6 ∨ x.toInt = -5 ∨ x.toInt = -4 ∨ x.toInt = -3 ∨ x.toInt = -2 := by omega
  rcases hc with h | h | h | h | h | h | h | h | h
  · rw [h] at e; subst e; exact ⟨8, by decide, by decide⟩
  · rw [h] at e; subst e; exact ⟨7, by decide, by decide⟩
  · rw [h] at e; subst e; exact ⟨6, by decide, by decide⟩
  · rw [h] at e; subst e; exact ⟨5, by decide, by decide⟩
  · rw [h] at e; subst e; exact ⟨4, by decide, by decide⟩
  · rw [h] at e; subst e; exact ⟨3, by decide, by decide⟩
  · rw [h] at e; subst e; exact ⟨2, by decide, by decide⟩
  · rw [h] at e; subst e; exact ⟨1, by decide, by decide⟩
  · rw [h] at e; subst e; exact ⟨0, by decide, by decide⟩
theorem x_within_at {x lo hi : Int32} {K : Int32 → Prop} (h1 : ¬ x < lo) (h2 : ¬ hi < x) (k : K 1) : wp_X8_isWithin x lo hi K := by
  rw [wp_X8_isWithin]
  exact ⟨fun q => absurd q h1, fun _ => ⟨fun q => absurd q h2, fun _ => k⟩⟩
theorem m_within_at {x lo hi : Int32} {K : Int32 → Prop} (h1 : ¬ x < lo) (h2 : ¬ hi < x) (k : K 1) : wp_X9_within x lo hi K := by
  rw [wp_X9_within]
  exact ⟨fun q => absurd q h1, fun _ => ⟨fun q => absurd q h2, fun _ => k⟩⟩
theorem cs_errorCount (hv1 : vp_in (x3 + 1) L) (hI : Inv B ec n0 r0 s n1 r1 n2 r2 n3 r3 f g sm em) (hJ : Goes9 B (x3 + 5) J) : wc_734 L xs J x3 ec a0 n0 r0 s a1 n1 r1 a2 n2 r2 a3 n3 r3 f g sm em hh := by
  rw [wc_734]
  refine ⟨hv1, ?_⟩
  generalize xs (x3 + 1).toNatClampNeg = x
  rw [wp_X8_errorCount]
  rcases err_cases x with h | ⟨⟨h, h'⟩, k, hk, ek⟩
  · refine x_within_out h ⟨fun z => absurd rfl z, fun _ => x_fail fc2 ⟨hv1, ?_⟩⟩
    rw [wp_X9_errorCount]
    exact m_within_out h ⟨fun _ => m_fails fc2 ⟨fun _ => hJ _ _ _ _ _ _ _ _ _ _ _ _ _ _ _ _ _ _ _ (hI.err (by decide)), fun y => y rfl⟩, fun z => absurd rfl z⟩
  · obtain ⟨s9, -, -, -, he, -, -⟩ := id hI
    rw [ek, nI_clamp (by omega)]
    refine x_within_at h h' ⟨fun _ => ⟨vp_in_nI hk (by decide), hv1, ?_⟩, fun z => absurd z one_ne⟩
    rw [wp_X9_errorCount, ek, nI_clamp (by omega), he k hk]
    exact m_within_at h h' ⟨fun z => absurd z one_ne, fun _ => ⟨vp_in_nI hk (by decide), ⟨fun _ => hJ _ _ _ _ _ _ _ _ _ _ _ _ _ _ _ _ _ _ _ (hI.up), fun y => y rfl⟩⟩⟩
theorem cs_rotateKey (hv1 : vp_in (x3 + 1) L) (hI : Inv B ec n0 r0 s n1 r1 n2 r2 n3 r3 f g sm em) (hJ : Goes9 B (x3 + 5) J) : wc_175 L xs J x3 ec a0 n0 r0 s a1 n1 r1 a2 n2 r2 a3 n3 r3 f g sm em hh := by
  rw [wc_175]
  refine ⟨hv1, ?_⟩
  generalize xs (x3 + 1).toNatClampNeg = x
  rw [wp_X8_rotateKey]
  rcases rng (x := x) (lo := 0) (hi := 65520) (l := 0) (h := 65520) rfl rfl (by decide) (by decide) with h | ⟨k, -, hk, rfl⟩
  · refine x_within_out h ⟨fun z => absurd rfl z, fun _ => x_fail fc2 ⟨hv1, ?_⟩⟩
    rw [wp_X9_rotateKey]
    exact m_within_out h ⟨fun z => absurd rfl z, fun _ => m_fails fc2 ⟨fun _ => hJ _ _ _ _ _ _ _ _ _ _ _ _ _ _ _ _ _ _ _ (hI.err (by decide)), fun y => y rfl⟩⟩
  · obtain ⟨s9, hs9, rfl, rfl, he, hS, hP9⟩ := id hI
    refine x_within_in (l := 0) (h := 65520) rfl rfl rfl (by omega) hk (by decide) ⟨fun _ => x_save hs9 hS hP9 (fun a1' n1' r1' a2' n2' r2' a3' n3' r3' hg => ⟨hv1, ?_⟩), fun y => absurd y one_ne⟩
    rw [wp_X9_rotateKey]
    refine m_within_in (l := 0) (h := 65520) rfl rfl rfl (by omega) hk (by decide) ⟨fun _ => m_saves hs9 (fun g' hg' f5 e5 f6 e6 => ?_), fun y => absurd y one_ne⟩
    obtain ⟨t, ky, O, Q, q, z, cr, sv, LL, U, pt, gt, ⟨h1, h2, h3⟩, ⟨k1, k2, k3⟩, ⟨o1, o2⟩, hw, ⟨g1, g2, g3⟩, ⟨e1, e2, e3, e4⟩, ⟨p1, p2, p3, p4, p5⟩, ⟨u1, u2, u3, u4⟩, ⟨s1, s2, s3, s4⟩⟩ := hS
    have ho : ∀ j, j ≠ 1 → j ≠ 2 → f6 j = f j := fun j a b => by rw [e6, pk_un a, e5, pk_un b]
    have e62 : f6 2 = n0 1 := by rw [e6, pk_un (by decide), e5, pk_us, k2, k3]
    have hJ9 := hJ ec a0 (upd (upd n0 1 (nI k)) 2 (n0 1)) r0 (nI (nxt s9)) a1' n1' r1' a2' n2' r2' a3' n3' r3' f6 g' (nI (nxt s9)) em hh (Inv.after he ?_ (hg g' hg'))
    · exact ⟨fun _ => hJ9, fun y => y e62.symm⟩
    · exact ⟨t, k, O, Q, q, z, cr, sv, LL, U, pt, gt, ⟨by omega, h2, by rw [ho 0 (by decide) (by decide)]; exact h3⟩, ⟨hk, rfl, by rw [e6, pk_us]⟩, ⟨Or.inr ⟨ky, k1, k2⟩, by rw [e62]; rfl⟩, by rw [ho 5 (by decide) (by decide)]; exact hw, ⟨g1, g2.out (fun j _ _ => ho j (by omega) (by omega)), by omega⟩, ⟨e1, e2, e3.out e4.1.1 (ho 3 (by decide) (by decide)) (fun j _ _ => ho j (by omega) (by omega)), e4⟩, ⟨p1, p2.out (fun j _ _ => ho j (by omega) (by omega)), p3, p4, p5⟩, ⟨u1, u2, u3.out u4.1 (ho 4 (by decide) (by decide)) (fun j _ _ => ho j (by omega) (by omega)), u4⟩, ⟨s1, s2.out s3 (ho 6 (by decide) (by decide)) (ho 7 (by decide) (by decide)) (fun j _ _ => ho j (by omega) (by omega)), s3, by omega⟩⟩
theorem cs_advance (hB : B ≤ 600) (hv1 : vp_in (x3 + 1) L) (hI : Inv B ec n0 r0 s n1 r1 n2 r2 n3 r3 f g sm em) (hJ : Goes9 B (x3 + 5) J) : wc_152 L xs J x3 ec a0 n0 r0 s a1 n1 r1 a2 n2 r2 a3 n3 r3 f g sm em hh := by
  rw [wc_152]
  refine ⟨hv1, ?_⟩
  generalize xs (x3 + 1).toNatClampNeg = x
  rw [wp_X8_advance]
  rcases rng (x := x) (lo := 0) (hi := 1000) (l := 0) (h := 1000) rfl rfl (by decide) (by decide) with h | ⟨d, -, hd, rfl⟩
  · refine x_within_out h ⟨fun z => absurd rfl z, fun _ => x_fail fc2 ⟨hv1, ?_⟩⟩
    rw [wp_X9_advance]
    exact m_within_out h ⟨fun z => absurd rfl z, fun _ => m_fails fc2 ⟨fun _ => hJ _ _ _ _ _ _ _ _ _ _ _ _ _ _ _ _ _ _ _ (hI.err (by decide)), fun y => y rfl⟩⟩
  · obtain ⟨s9, hs9, rfl, rfl, he, hS, hP9⟩ := id hI
    refine x_within_in (l := 0) (h := 1000) rfl rfl rfl (by omega) hd (by decide) ⟨fun _ => x_save hs9 hS hP9 (fun a1' n1' r1' a2' n2' r2' a3' n3' r3' hg => ?_), fun y => absurd y one_ne⟩
    obtain ⟨t, ky, O, Q, q, z, cr, sv, LL, U, pt, gt, ⟨h1, h2, h3⟩, ⟨k1, k2, k3⟩, ⟨o1, o2⟩, hw, ⟨g1, g2, g3⟩, ⟨e1, e2, e3, e4⟩, ⟨p1, p2, p3, p4, p5⟩, ⟨u1, u2, u3, u4⟩, ⟨s1, s2, s3, s4⟩⟩ := hS
    have hl4 := e4.1.1
    have hl20 := u4.1
    rw [wp_X6_pass, h2, e2, u2, nI_add]
    refine x_pass g1 (by omega) (fun b0 hb0 => x_expire (t := t + d) e1 hl4 (fun e h => by have := (e4.1.2.2 e h).2.2; omega) (by omega) (fun b1 b2 b3 hb1 => ?_))
    rw [wp_X6_currentEpoch, show (upd (upd n0 0 (nI (t + d))) 4 (nI (LL.filter (fun e => decide (t + d < e.2.2 + 20))).length)) 0 = nI (t + d) from rfl, ep_eq (by omega)]
    refine x_forgetStale u1 hl20 (fun e h => (u4.2 e h).2.1) (by omega) (fun b5 b6 hb5 => ⟨hv1, ?_⟩)
    rw [wp_X9_advance]
    have eL : LL.filter (fun e => decide (t + 0 < e.2.2 + 20)) = LL := List.filter_eq_self.mpr (fun e h => by have := e4.2 e h; exact decide_eq_true (by omega))
    have eU : U.filter (freshU ((t + 0) / 64)) = U := List.filter_eq_self.mpr (fun e h => by have := (u4.2 e h).2.2; exact decide_eq_true (by rw [Nat.add_zero]; omega))
    refine m_within_in (l := 0) (h := 1000) rfl rfl rfl (by omega) hd (by decide) ⟨fun _ => m_saves hs9 (fun g' hg' => ⟨d + 1, m_advance_loop (t := t) (d := d) (f0 := f) (O := O) (L := LL) (U := U) hd (by omega) hl4 hl20 (fun e h => ⟨(e4.1.2.2 e h).2.2, e4.2 e h⟩) (fun e h => (u4.2 e h).2) (fun f' c0 cO cE cU cK => ?_) (d + 1) 0 f (by omega) (by omega) h3 g2 (by rw [eL]; exact e3) (by rw [eU]; exact u3) KeepT.rf⟩), fun y => absurd y one_ne⟩
    refine ⟨fun _ => hJ _ _ _ _ _ _ _ _ _ _ _ _ _ _ _ _ _ _ _ (Inv.after he ?_ (hg g' hg')), fun y => y rfl⟩
    refine ⟨t + d, ky, clr O t d, Q, q, z, cr, sv, LL.filter (fun e => decide (t + d < e.2.2 + 20)), U.filter (freshU ((t + d) / 64)), pt, gt, ⟨by omega, rfl, c0⟩, ⟨k1, k2, by rw [cK 1 (by omega)]; exact k3⟩, ⟨o1, by rw [cK 2 (by omega)]; exact o2⟩, by rw [cK 5 (by omega)]; exact hw, ⟨hb0, cO, by have := clr_sm O t d 16; omega⟩, ⟨hb1, rfl, cE, e4.1.filt (by omega) _, fun e h => of_decide_eq_true (List.mem_filter.mp h).2⟩, ⟨p1, p2.out (fun j _ _ => cK j (by omega)), p3, p4, p5⟩, ⟨hb5, rfl, cU, Nat.le_trans (List.length_filter_le _ _) hl20, fun e h => ?_⟩, ⟨s1, s2.out s3 (cK 6 (by omega)) (cK 7 (by omega)) (fun j _ _ => cK j (by omega)), s3, by omega⟩⟩
    obtain ⟨m1, m2⟩ := List.mem_filter.mp h
    exact ⟨(u4.2 e m1).1, (u4.2 e m1).2.1, of_decide_eq_true m2⟩
end CS3
