/-! the cases of the law: accept, undo -/
section CS6
variable {B L : Nat} {xs : Nat → Int32} {J : JT} {x3 : Int32} {ec : Nat → Int32} {a0 : Nat → Nat} {n0 : Nat → Int32} {r0 : Nat → Nat → Int32} {s : Int32} {a1 : Nat → Nat} {n1 : Nat → Int32} {r1 : Nat → Nat → Int32} {a2 : Nat → Nat} {n2 : Nat → Int32} {r2 : Nat → Nat → Int32} {a3 : Nat → Nat} {n3 : Nat → Int32} {r3 : Nat → Nat → Int32} {f g : Nat → Int32} {sm : Int32} {em : Nat → Int32} {hh : Int64}
theorem cs_accept (hB : B ≤ 600) (hv1 : vp_in (x3 + 1) L) (hv2 : vp_in (x3 + 2) L) (hv3 : vp_in (x3 + 3) L) (hv4 : vp_in (x3 + 4) L) (hI : Inv B ec n0 r0 s n1 r1 n2 r2 n3 r3 f g sm em) (hJ : Goes9 B (x3 + 5) J) : wc_241 L xs J x3 ec a0 n0 r0 s a1 n1 r1 a2 n2 r2 a3 n3 r3 f g sm em hh := by
  rw [wc_241]
  refine ⟨hv1, hv2, hv3, hv4, ?_⟩
  generalize xs (x3 + 1).toNatClampNeg = x
  generalize xs (x3 + 2).toNatClampNeg = y
  generalize xs (x3 + 3).toNatClampNeg = v
  generalize xs (x3 + 4).toNatClampNeg = w
  rw [wp_X8_accept]
  rcases place_cases x y with h | ⟨c, p, hc, hp, rfl, rfl⟩
  · refine x_isPlace_out h ⟨fun _ => x_fail fc2 ⟨hv1, hv2, hv3, hv4, ?_⟩, fun z => absurd rfl z⟩
    rw [wp_X9_accept]
    exact m_isPort_out h ⟨fun _ => m_fails fc2 ⟨fun _ => hJ _ _ _ _ _ _ _ _ _ _ _ _ _ _ _ _ _ _ _ (hI.err (by decide)), fun y => y rfl⟩, fun z => absurd rfl z⟩
  refine x_isPlace_in hc hp ⟨fun z => absurd z one_ne, fun _ => ?_⟩
  rcases cookie_cases v with h | ⟨ck, hck, rfl⟩
  · refine x_isCookie_out h ⟨fun _ => x_fail fc2 ⟨hv1, hv2, hv3, hv4, ?_⟩, fun z => absurd rfl z⟩
    rw [wp_X9_accept]
    exact m_isPort_in hc hp ⟨fun z => absurd z one_ne, fun _ => m_isCookie_out h ⟨fun _ => m_fails fc2 ⟨fun _ => hJ _ _ _ _ _ _ _ _ _ _ _ _ _ _ _ _ _ _ _ (hI.err (by decide)), fun y => y rfl⟩, fun z => absurd rfl z⟩⟩
  refine x_isCookie_in hck ⟨fun z => absurd z one_ne, fun _ => ?_⟩
  rcases rng (x := w) (lo := 0) (hi := 9999) (l := 0) (h := 9999) rfl rfl (by decide) (by decide) with h | ⟨so, -, hso, rfl⟩
  · refine x_within_out h ⟨fun z => absurd rfl z, fun _ => x_fail fc2 ⟨hv1, hv2, hv3, hv4, ?_⟩⟩
    rw [wp_X9_accept]
    exact m_isPort_in hc hp ⟨fun z => absurd z one_ne, fun _ => m_isCookie_in hck ⟨fun z => absurd z one_ne, fun _ => m_within_out h ⟨fun z => absurd rfl z, fun _ => m_fails fc2 ⟨fun _ => hJ _ _ _ _ _ _ _ _ _ _ _ _ _ _ _ _ _ _ _ (hI.err (by decide)), fun y => y rfl⟩⟩⟩⟩
  obtain ⟨s9, hs9, rfl, rfl, he, hS, hP9⟩ := id hI
  obtain ⟨t, ky, O, Q, q, z, cr, sv, LL, U, pt, gt, ⟨h1, h2, h3⟩, ⟨k1, k2, k3⟩, ⟨o1, o2⟩, hw, ⟨g1, g2, g3⟩, ⟨e1, e2, e3, e4⟩, ⟨p1, p2, p3, p4, p5⟩, ⟨u1, u2, u3, u4⟩, ⟨s1, s2, s3, s4⟩⟩ := id hS
  have hl4 := e4.1.1
  have hl20 := u4.1
  have hub : ∀ e ∈ U, e.1 < 128 ∧ e.2 < 1048576 := fun e h => ⟨(u4.2 e h).1, (u4.2 e h).2.1⟩
  have heb : ∀ e ∈ LL, e.1 < 128 ∧ e.2.1 < 1048576 := fun e h => ⟨(e4.1.2.2 e h).1, (e4.1.2.2 e h).2.1⟩
  refine x_within_in (l := 0) (h := 9999) rfl rfl rfl (by omega) hso (by decide) ⟨fun _ => x_placeOf (x_isConnected p1 p3 (by omega) (fun hq => ⟨fun _ => ?_, fun y => absurd rfl y⟩) (fun hq => ⟨fun y => absurd y one_ne, fun _ => x_fail fc3 ⟨hv1, hv2, hv3, hv4, ?_⟩⟩)), fun y => absurd y one_ne⟩
  · rw [wp_X4_isFull, p4, show (10 : Int32) = nI 10 from rfl, nI_ltI (by omega) (by decide)]
    refine ⟨fun hcn => ⟨fun _ => ?_, fun y => absurd rfl y⟩, fun hcn => ⟨fun y => absurd y one_ne, fun _ => x_fail fc4 ⟨hv1, hv2, hv3, hv4, ?_⟩⟩⟩
    · -- by cookie
      have byC : (∀ (j : Nat) (e : Ent), LL[j]? = some e → e.1 = 8 * c + p → e.2.1 ≠ ck) → wp_X8_acceptByCookie ec n0 r0 (nI s9) a1 n1 r1 a2 n2 r2 a3 n3 r3 (nI (8 * c + p)) (nI ck) (nI so) (fun (v1 : Int32) (g2 : Nat → Int32) (g3 : Nat → Int32) (g4 : Nat → Nat → Int32) (s5 : Int32) (g6 : Nat → Nat) (g7 : Nat → Int32) (g8 : Nat → Nat → Int32) (g9 : Nat → Nat) (g10 : Nat → Int32) (g11 : Nat → Nat → Int32) (g12 : Nat → Nat) (g13 : Nat → Int32) (g14 : Nat → Nat → Int32) => (vp_in (x3 + 1) L ∧ (vp_in (x3 + 2) L ∧ (vp_in (x3 + 3) L ∧ (vp_in (x3 + 4) L ∧ (wp_X9_accept f g (nI s9) em hh (nI c) (nI p) (nI ck) (nI so) (fun (v15 : Int32) (g16 : Nat → Int32) (g17 : Nat → Int32) (s18 : Int32) (g19 : Nat → Int32) => ((v1 = v15 → J (x3 + 5) g2 a0 g3 g4 s5 g6 g7 g8 g9 g10 g11 g12 g13 g14 g16 g17 s18 g19 hh) ∧ (¬ (v1 = v15) → False))))))))) := fun hnot => by
        obtain ⟨pv, m2, hpv⟩ := Prv.of o1 (8 * c + p) ck
        have hpvm : Prv (f 2) (8 * c + p) ck pv m2 := by rw [o2]; exact hpv
        have hus : decide ((8 * c + p, ck) ∈ U) = true ↔ (8 * c + p, ck) ∈ U := decide_eq_true_iff
        have hsol : decide (digN ck so % 2 ^ difN (fb_sm O 16) = 0) = true ↔ digN ck so % 2 ^ difN (fb_sm O 16) = 0 := decide_eq_true_iff
        -- a failure: both sides count it
        have bad : ∀ (nn : Nat → Int32) (code : Int32) (k w : Nat), (∀ j, j ≠ 3 → nn j = n0 j) → nn 3 = n0 3 + nI w → accN (ageN (t / 64) ck) (difN (fb_sm O 16)) (decide (digN ck so % 2 ^ difN (fb_sm O 16) = 0)) (mkB ky (8 * c + p) ck) pv m2 (decide ((8 * c + p, ck) ∈ U)) = (code, w) → FC code k → ¬ 0 ≤ code → wp_X9_accept f g (nI s9) em hh (nI c) (nI p) (nI ck) (nI so) (fun (v15 : Int32) (g16 : Nat → Int32) (g17 : Nat → Int32) (s18 : Int32) (g19 : Nat → Int32) => ((code = v15 → J (x3 + 5) (upd ec k (ec k + 1)) a0 nn r0 (nI s9) a1 n1 r1 a2 n2 r2 a3 n3 r3 g16 g17 s18 g19 hh) ∧ (¬ (code = v15) → False))) := fun nn code k w hnn hn3 hacc hF hn => by
          refine m_acceptF hc hp hck hso p3 hq hcn e3 e4 hnot (by omega) h3 k1 k3 hpvm g2 (by omega) u3 hl20 hub hus hsol p2 hacc hF hn (fun f' b1 b2 => ⟨fun _ => hJ _ _ _ _ _ _ _ _ _ _ _ _ _ _ _ _ _ _ _ ⟨s9, hs9, rfl, rfl, err_up he hF.2.2.2, ?_, hP9.mono (by omega)⟩, fun y => y rfl⟩)
          exact ⟨t, ky, O, Q, q, z, cr, sv, LL, U, pt, gt, ⟨by omega, by rw [hnn 0 (by decide)]; exact h2, by rw [b1 0 (by decide)]; exact h3⟩, ⟨k1, by rw [hnn 1 (by decide)]; exact k2, by rw [b1 1 (by decide)]; exact k3⟩, ⟨by rw [hnn 2 (by decide)]; exact o1, by rw [hnn 2 (by decide), b1 2 (by decide)]; exact o2⟩, by rw [b2, hn3, hw], ⟨g1, g2.out (fun j _ _ => b1 j (by omega)), by omega⟩, ⟨e1, by rw [hnn 4 (by decide)]; exact e2, e3.out hl4 (b1 3 (by decide)) (fun j _ _ => b1 j (by omega)), e4⟩, ⟨p1, p2.out (fun j _ _ => b1 j (by omega)), p3, by rw [hnn 5 (by decide)]; exact p4, p5⟩, ⟨u1, by rw [hnn 6 (by decide)]; exact u2, u3.out hl20 (b1 4 (by decide)) (fun j _ _ => b1 j (by omega)), u4⟩, ⟨by rw [hnn 7 (by decide), hnn 8 (by decide), hnn 9 (by decide)]; exact s1, s2.out s3 (b1 6 (by decide)) (b1 7 (by decide)) (fun j _ _ => b1 j (by omega)), s3, by omega⟩⟩
        refine x_abc u1 u2 hl20 hub hus (by omega) hck (by omega) k1 k2 hpv (by omega) h2 g1 (by omega) hsol (fun hacc => ⟨hv1, hv2, hv3, hv4, ?_⟩) (fun code k w hacc hF hn => ⟨hv1, hv2, hv3, hv4, ?_⟩) (fun w hacc hag => ?_)
        · exact bad n0 (-5) 3 0 (fun _ _ => rfl) (by show n0 3 = n0 3 + 0; grind) hacc fc5 (by decide)
        · exact bad _ code k w (fun j a => pk_un a) pk_us hacc hF hn
        · refine x_save hs9 hS hP9 (fun a1' n1' r1' a2' n2' r2' a3' n3' r3' hg => ?_)
          rw [u2]
          refine x_add u1 hl20 (fun b5 b6 hb5 => x_connect (Q := Q) (by exact p1) (by exact p4) (by omega) hq hck (fun b4 hb4 => ⟨hv1, hv2, hv3, hv4, ?_⟩))
          refine m_accept0 hc hp hck hso p3 hq hcn e3 e4 hnot (by omega) h3 k1 k3 hpvm g2 (by omega) u3 hl20 hub hus hsol p2 hacc hs9 (fun f' g' hg' c1 c2 c3 c4 => ⟨fun _ => hJ _ _ _ _ _ _ _ _ _ _ _ _ _ _ _ _ _ _ _ (Inv.after he ?_ (hg g' hg')), fun y => y rfl⟩)
          have hol := optN_lt ck
          have hcc := cnt_nup Q (p := 8 * c + p) (by omega) (optN ck + 1)
          rw [if_neg (by omega), if_pos (by omega)] at hcc
          refine ⟨t, ky, O, nup Q (8 * c + p) (optN ck + 1), q, z, cr, sv, LL, addU U (8 * c + p, ck), pt, gt, ⟨by omega, h2, by rw [c4 0 (by omega) (by omega) (by omega)]; exact h3⟩, ⟨k1, k2, by rw [c4 1 (by omega) (by omega) (by omega)]; exact k3⟩, ⟨o1, by rw [c4 2 (by omega) (by omega) (by omega)]; exact o2⟩, by rw [c3, hw]; rfl, ⟨g1, g2.out (fun j _ _ => c4 j (by omega) (by omega) (by omega)), by omega⟩, ⟨e1, e2, e3.out hl4 (c4 3 (by omega) (by omega) (by omega)) (fun j _ _ => c4 j (by omega) (by omega) (by omega)), e4⟩, ⟨hb4, c2, Q_nup p3 (by omega), rfl, by omega⟩, ⟨hb5, rfl, c1, ?_, fun e h => ?_⟩, ⟨s1, s2.out s3 (c4 6 (by omega) (by omega) (by omega)) (c4 7 (by omega) (by omega) (by omega)) (fun j _ _ => c4 j (by omega) (by omega) (by omega)), s3, by omega⟩⟩
          · unfold addU
            split
            · simp; omega
            · simp; omega
          · unfold addU at h
            rcases List.mem_append.mp h with m | m
            · refine u4.2 e ?_
              split at m
              · exact m
              · exact List.mem_of_mem_drop m
            · rw [List.mem_singleton] at m
              subst m
              exact ⟨by show 8 * c + p < 128; omega, hck, hag⟩
      rw [e2]
      refine x_holds e1 hl4 heb (by omega) hck (fun i e hi hei hec => ⟨fun y => absurd y one_ne, fun _ => x_save hs9 hS hP9 (fun a1' n1' r1' a2' n2' r2' a3' n3' r3' hg => ?_)⟩) (fun i e hi hei hec => ⟨fun _ => byC (fun j d hj hd => ?_), fun y => absurd rfl y⟩) (fun hn => ⟨fun _ => byC (fun j d hj hd => absurd hd (hn d (List.mem_of_getElem? hj))), fun y => absurd rfl y⟩)
      · have hfe := filter_erase LL i e (8 * c + p) (uq_pw.mp e4.1.2.1) hi hei
        refine x_drop e1 hl4 (fun e h => (heb e h).1) (by omega) (fun b1 b2 b3 hb1 => x_connect (Q := Q) (by exact p1) (by exact p4) (by omega) hq hck (fun b4 hb4 => ⟨hv1, hv2, hv3, hv4, ?_⟩))
        refine m_acceptE hc hp hck hso p2 p3 hq hcn e3 e4 hs9 hi hei hec (fun f' g' hg' c1 c2 c4 => ⟨fun _ => hJ _ _ _ _ _ _ _ _ _ _ _ _ _ _ _ _ _ _ _ (Inv.after he ?_ (hg g' hg')), fun y => y rfl⟩)
        rw [← hfe] at c1
        have hol := optN_lt ck
        have hcc := cnt_nup Q (p := 8 * c + p) (by omega) (optN ck + 1)
        rw [if_neg (by omega), if_pos (by omega)] at hcc
        exact ⟨t, ky, O, nup Q (8 * c + p) (optN ck + 1), q, z, cr, sv, LL.filter (fun d => decide (d.1 ≠ 8 * c + p)), U, pt, gt, ⟨by omega, h2, by rw [c4 0 (by omega) (by omega)]; exact h3⟩, ⟨k1, k2, by rw [c4 1 (by omega) (by omega)]; exact k3⟩, ⟨o1, by rw [c4 2 (by omega) (by omega)]; exact o2⟩, by rw [c4 5 (by omega) (by omega)]; exact hw, ⟨g1, g2.out (fun j _ _ => c4 j (by omega) (by omega)), by omega⟩, ⟨hb1, rfl, c1, e4.1.filt (Nat.le_refl _) _, fun e h => e4.2 e (List.mem_filter.mp h).1⟩, ⟨hb4, c2, Q_nup p3 (by omega), rfl, by omega⟩, ⟨u1, u2, u3.out hl20 (c4 4 (by omega) (by omega)) (fun j _ _ => c4 j (by omega) (by omega)), u4⟩, ⟨s1, s2.out s3 (c4 6 (by omega) (by omega)) (c4 7 (by omega) (by omega)) (fun j _ _ => c4 j (by omega) (by omega)), s3, by omega⟩⟩
      · have ij := e4.1.2.1 i j e d hi hj (by omega)
        subst ij
        rw [hi] at hj; cases hj; exact hec
    · rw [wp_X9_accept]
      exact m_isPort_in hc hp ⟨fun z => absurd z one_ne, fun _ => m_isCookie_in hck ⟨fun z => absurd z one_ne, fun _ => m_within_in (l := 0) (h := 9999) rfl rfl rfl (by omega) hso (by decide) ⟨fun _ => m_isConnected p2 p3 hc hp (fun _ => ⟨fun _ => m_connections p2 p3 ⟨fun y => absurd (by rw [show cntP Q = 10 by omega]; rfl) y, fun _ => m_fails fc4 ⟨fun _ => hJ _ _ _ _ _ _ _ _ _ _ _ _ _ _ _ _ _ _ _ (hI.err (by decide)), fun y => y rfl⟩⟩, fun y => absurd rfl y⟩) (fun x => by omega), fun z => absurd z one_ne⟩⟩⟩
  · rw [wp_X9_accept]
    exact m_isPort_in hc hp ⟨fun z => absurd z one_ne, fun _ => m_isCookie_in hck ⟨fun z => absurd z one_ne, fun _ => m_within_in (l := 0) (h := 9999) rfl rfl rfl (by omega) hso (by decide) ⟨fun _ => m_isConnected p2 p3 hc hp (fun x => by omega) (fun _ => ⟨fun y => absurd y one_ne, fun _ => m_fails fc3 ⟨fun _ => hJ _ _ _ _ _ _ _ _ _ _ _ _ _ _ _ _ _ _ _ (hI.err (by decide)), fun y => y rfl⟩⟩), fun z => absurd z one_ne⟩⟩⟩
theorem m_undo_loop {s : Nat} (hs : s ≤ 2) {K : Int32 → (Nat → Int32) → Int32 → (Nat → Int32) → Prop} (k : ∀ f', (∀ j, j < 404 → f' j = g (404 * s + j)) → K (nI s) f' (nI s) em) : ∀ (n i : Nat) (f : Nat → Int32), i + n = 405 → i ≤ 404 → (∀ j, j < i → f j = g (404 * s + j)) → wpl_X9_undo_26 g hh K n (nI i) f (nI s) em := by
  intro n
  induction n with
  | zero => intro i f h1 h2; omega
  | succ n ih =>
    intro i f h1 h2 ha
    rw [wpl_X9_undo_26]
    rcases Nat.lt_or_ge i 404 with q | q
    · refine ⟨fun z => absurd z (by rw [show (404 : Int32) = nI 404 from rfl, nI_leI (by decide) (by omega)]; omega), fun _ => ?_⟩
      rw [show (404 : Int32) = nI 404 from rfl, pk_mul, nI_add]
      refine ⟨vp_in_nI (by omega) (by decide), vp_in_nI q (by decide), fun f3 e3 => ?_⟩
      rw [nI_clamp (by omega), nI_clamp (by omega)] at e3
      rw [nI_1]
      subst e3
      refine ih (i + 1) _ (by omega) (by omega) (fun j hj => ?_)
      by_cases x : j = i
      · subst x; rw [pk_us]
      · rw [pk_un x]; exact ha j (by omega)
    · have : i = 404 := by omega
      subst this
      exact ⟨fun _ => k f ha, fun z => absurd (by decide) z⟩
theorem m_undo {s : Nat} (hs : s ≤ 2) {K : Int32 → (Nat → Int32) → Int32 → (Nat → Int32) → Prop} (k : ∀ f', (∀ j, j < 404 → f' j = g (404 * s + j)) → K (nI s) f' (nI s) em) : wp_X9_undo f g (nI (s + 1)) em hh K := by
  rw [wp_X9_undo]
  refine ⟨fun _ => ⟨405, ?_⟩, fun x => absurd x (nI_ne0 (by omega) (by omega))⟩
  rw [show nI (s + 1) - 1 = nI s from pk_sub (a := s + 1) (b := 1) (by omega)]
  exact m_undo_loop hs k 405 0 f (by omega) (by omega) (fun j hj => by omega)
theorem cs_undo (hI : Inv B ec n0 r0 s n1 r1 n2 r2 n3 r3 f g sm em) (hJ : Goes9 B (x3 + 5) J) : wc_721 L xs J x3 ec a0 n0 r0 s a1 n1 r1 a2 n2 r2 a3 n3 r3 f g sm em hh := by
  rw [wc_721, wp_X8_undo]
  obtain ⟨s9, hs9, rfl, rfl, he, hS, hP9⟩ := id hI
  match s9, hs9 with
  | 0, _ =>
    refine ⟨fun x => absurd rfl x, fun _ => x_fail fc10 ?_⟩
    rw [wp_X9_undo]
    exact ⟨fun x => absurd rfl x, fun _ => m_fails fc10 ⟨fun _ => hJ _ _ _ _ _ _ _ _ _ _ _ _ _ _ _ _ _ _ _ (hI.err (by decide)), fun y => y rfl⟩⟩
  | 1, _ =>
    refine ⟨fun _ => ?_, fun x => absurd x (by decide)⟩
    rw [wp_X2_takeBack]
    refine ⟨fun _ => ⟨Or.inl rfl, fun _ => Or.inl ⟨rfl, rfl, rfl, rfl, ?_⟩, fun x => absurd x (by decide), fun x => absurd x (by decide)⟩, fun x => absurd (by decide) x⟩
    refine m_undo (s := 0) (by decide) (fun f' hf => ⟨fun _ => hJ _ _ _ _ _ _ _ _ _ _ _ _ _ _ _ _ _ _ _ ⟨0, by decide, rfl, rfl, he, ?_, fun x => absurd x (by decide), fun x => absurd x (by decide), fun x => absurd x (by decide)⟩, fun y => y rfl⟩)
    exact ((hP9.1 (by decide)).cp Cp.rf (fun j hj => by rw [hf j hj, Nat.mul_zero, Nat.zero_add])).mono (by omega)
  | 2, _ =>
    refine ⟨fun _ => ?_, fun x => absurd x (by decide)⟩
    rw [wp_X2_takeBack]
    refine ⟨fun _ => ⟨Or.inr (Or.inl rfl), fun x => absurd x (by decide), fun _ => Or.inr (Or.inl ⟨rfl, rfl, rfl, rfl, ?_⟩), fun x => absurd x (by decide)⟩, fun x => absurd (by decide) x⟩
    refine m_undo (s := 1) (by decide) (fun f' hf => ⟨fun _ => hJ _ _ _ _ _ _ _ _ _ _ _ _ _ _ _ _ _ _ _ ⟨1, by decide, rfl, rfl, he, ?_, fun _ => (hP9.1 (by decide)).mono (by omega), fun x => absurd x (by decide), fun x => absurd x (by decide)⟩, fun y => y rfl⟩)
    exact ((hP9.2.1 (by decide)).cp Cp.rf (fun j hj => by rw [hf j hj])).mono (by omega)
  | 3, _ =>
    refine ⟨fun _ => ?_, fun x => absurd x (by decide)⟩
    rw [wp_X2_takeBack]
    refine ⟨fun _ => ⟨Or.inr (Or.inr rfl), fun x => absurd x (by decide), fun x => absurd x (by decide), fun _ => Or.inr (Or.inr ⟨rfl, rfl, rfl, rfl, ?_⟩)⟩, fun x => absurd (by decide) x⟩
    refine m_undo (s := 2) (by decide) (fun f' hf => ⟨fun _ => hJ _ _ _ _ _ _ _ _ _ _ _ _ _ _ _ _ _ _ _ ⟨2, by decide, rfl, rfl, he, ?_, fun _ => (hP9.1 (by decide)).mono (by omega), fun _ => (hP9.2.1 (by decide)).mono (by omega), fun x => absurd x (by decide)⟩, fun y => y rfl⟩)
    exact ((hP9.2.2 (by decide)).cp Cp.rf (fun j hj => by rw [hf j hj])).mono (by omega)
end CS6
