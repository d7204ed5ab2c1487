/-! the cases of the law: close, request, serve -/
theorem cntC_le (Q : Nat → Nat) (c : Nat) : cntC Q c ≤ 8 := fb_ct_le _ _
theorem PC_nup {Q : Nat → Nat} {a : Nat → Int32} (h : PC Q a) {p v : Nat} : PC (nup Q p v) (upd a p (nI v)) := fun j hj => by
  by_cases e : j = p
  · subst e; rw [pk_us, nup_s]
  · rw [pk_un e, nup_n e]; exact h j hj
theorem PM_nup {Q : Nat → Nat} {f : Nat → Int32} (h : PM Q f) {p v : Nat} : PM (nup Q p v) (upd f (40 + p) (nI v)) := fun j hj => by
  by_cases e : j = p
  · subst e; rw [pk_us, nup_s]
  · rw [pk_un (by omega), nup_n e]; exact h j hj
theorem Q_nup {Q : Nat → Nat} (h : ∀ j, j < 128 → Q j ≤ 8) {p v : Nat} (hv : v ≤ 8) : ∀ j, j < 128 → nup Q p v j ≤ 8 := fun j hj => by
  by_cases e : j = p
  · subst e; rw [nup_s]; exact hv
  · rw [nup_n e]; exact h j hj
theorem tot_dis {q z sv : Nat → Nat} {c : Nat} : tot (nup q c 0) z sv ≤ tot q z sv := fb_sm_le (fun i _ => by
  show sv i + qs (nup q c 0) z i ≤ sv i + qs q z i
  unfold qs
  by_cases e : i = c
  · subst e; rw [nup_s]; exact Nat.add_le_add_left (Nat.zero_le _) _
  · rw [nup_n e]; exact Nat.le_refl _)
theorem I_dis {q z cr sv : Nat → Nat} {pt gt : Nat} (h : SrvI q z cr sv pt gt) (c : Nat) : SrvI (nup q c 0) z (nup cr c 0) sv pt gt := by
  obtain ⟨h1, h2, h3, h4, h5, h6, h7⟩ := h
  refine ⟨fun i hi => ?_, fun i k hi hk => ?_, fun i hi => ?_, fun i hi hn => ?_, h5, h6, h7⟩
  · by_cases e : i = c
    · subst e; rw [nup_s]; omega
    · rw [nup_n e]; exact h1 i hi
  · by_cases e : i = c
    · subst e; rw [nup_s] at hk; omega
    · rw [nup_n e] at hk; exact h2 i k hi hk
  · by_cases e : i = c
    · subst e; rw [nup_s]; omega
    · rw [nup_n e]; exact h3 i hi
  · by_cases e : i = c
    · subst e; rw [nup_s]; omega
    · rw [nup_n e]; exact h4 i hi hn
theorem C_dis {q z cr sv : Nat → Nat} {pt gt c : Nat} {a b d e : Nat → Int32} {w p g : Int32} (h : SrvC q z cr sv pt gt a b d e w p g) (hc : c < 16) : SrvC (nup q c 0) z (nup cr c 0) sv pt gt a (upd b c (nI 0)) (upd d c (nI 0)) e (w - nI (q c)) p g := by
  obtain ⟨hb, ha, hd, he, hw, hp, hg⟩ := h
  refine ⟨arr_nup hb, fun i k hi hk => ?_, arr_nup hd, he, ?_, hp, hg⟩
  · by_cases e : i = c
    · subst e; rw [nup_s] at hk; omega
    · rw [nup_n e] at hk; exact ha i k hi hk
  · have e := sm_nup q 0 (n := 16) hc
    rw [hw, pk_sub (by omega)]
    congr 1
    omega
theorem M_dis {q z cr sv : Nat → Nat} {pt gt c : Nat} {f : Nat → Int32} (h : SrvM q z cr sv pt gt f) (hI : SrvI q z cr sv pt gt) (hc : c < 16) : SrvM (nup q c 0) z (nup cr c 0) sv pt gt (upd (upd f (228 + c) (nI 0)) (372 + c) (nI 0)) := by
  obtain ⟨a1, a2, a3, a4, a5, a6⟩ := h
  have ho : ∀ j, j ≠ 228 + c → j ≠ 372 + c → upd (upd f (228 + c) (nI 0)) (372 + c) (nI 0) j = f j := fun j x y => by rw [pk_un y, pk_un x]
  refine ⟨fun i hi => ?_, fun i k hi hk => ?_, fun i hi => ?_, fun i hi => by rw [ho _ (by omega) (by omega)]; exact a4 i hi, by rw [ho _ (by omega) (by omega)]; exact a5, by rw [ho _ (by omega) (by omega)]; exact a6⟩
  · by_cases e : i = c
    · subst e; rw [pk_un (by omega), pk_us, nup_s]
    · rw [ho _ (by omega) (by omega), nup_n e]; exact a1 i hi
  · by_cases e : i = c
    · subst e; rw [nup_s] at hk; omega
    · rw [nup_n e] at hk
      have := hI.1 i hi
      rw [ho _ (by omega) (by omega)]; exact a2 i k hi hk
  · by_cases e : i = c
    · subst e; rw [pk_us, nup_s]
    · rw [ho _ (by omega) (by omega), nup_n e]; exact a3 i hi
section CS4
variable {B L : Nat} {xs : Nat → Int32} {J : JT} {x3 : Int32} {ec : Nat → Int32} {a0 : Nat → Nat} {n0 : Nat → Int32} {r0 : Nat → Nat → Int32} {s : Int32} {a1 : Nat → Nat} {n1 : Nat → Int32} {r1 : Nat → Nat → Int32} {a2 : Nat → Nat} {n2 : Nat → Int32} {r2 : Nat → Nat → Int32} {a3 : Nat → Nat} {n3 : Nat → Int32} {r3 : Nat → Nat → Int32} {f g : Nat → Int32} {sm : Int32} {em : Nat → Int32} {hh : Int64}
theorem m_close {Q : Nat → Nat} {c p s9 : Nat} (p2 : PM Q f) (p3 : ∀ j, j < 128 → Q j ≤ 8) (hc : c < 16) (hp : p < 8) (hq : 0 < Q (8 * c + p)) (hs9 : s9 ≤ 3) {K : Int32 → (Nat → Int32) → (Nat → Int32) → Int32 → (Nat → Int32) → Prop}
    (k1 : ¬ cntC (nup Q (8 * c + p) 0) c = 0 → ∀ g' f', SavedM s9 f g g' → f' = upd f (40 + (8 * c + p)) (nI 0) → K (nI (cntC (nup Q (8 * c + p) 0) c)) f' g' (nI (nxt s9)) em)
    (k0 : cntC (nup Q (8 * c + p) 0) c = 0 → ∀ g' f8 f11 f12, SavedM s9 f g g' → f8 = upd f (40 + (8 * c + p)) (nI 0) → f11 = upd f8 (228 + c) (nI 0) → f12 = upd f11 (372 + c) (nI 0) → K (nI (cntC (nup Q (8 * c + p) 0) c)) f12 g' (nI (nxt s9)) em) : wp_X9_close f g (nI s9) em hh (nI c) (nI p) K := by
  rw [wp_X9_close]
  refine m_isPort_in hc hp ⟨fun _ => m_isConnected p2 p3 hc hp (fun w => by omega) (fun _ => ⟨fun _ => m_saves hs9 (fun g' hg' => m_sizeAt ⟨vp_in_nI (by omega) (by decide), fun f8 e8 => ?_⟩), fun y => absurd y one_ne⟩), fun y => absurd y one_ne⟩
  rw [nI_clamp (by omega)] at e8
  have hP8 : PM (nup Q (8 * c + p) 0) f8 := by rw [e8]; exact PM_nup p2
  refine m_connectionsOf hP8 (Q_nup p3 (by omega)) hc ?_
  have hc8 := cntC_le (nup Q (8 * c + p) 0) c
  rw [show (0 : Int32) = nI 0 from rfl, nI_eq (by omega) (by decide), show (228 : Int32) + nI c = nI (228 + c) from ix, show (372 : Int32) + nI c = nI (372 + c) from ix, nI_clamp (by omega), nI_clamp (by omega)]
  exact ⟨fun x => k1 x g' f8 hg' e8, fun x => ⟨vp_in_nI (by omega) (by decide), fun f11 e11 => ⟨vp_in_nI (by omega) (by decide), fun f12 e12 => k0 x g' f8 f11 f12 hg' e8 e11 e12⟩⟩⟩
theorem cs_close (hv1 : vp_in (x3 + 1) L) (hv2 : vp_in (x3 + 2) L) (hI : Inv B ec n0 r0 s n1 r1 n2 r2 n3 r3 f g sm em) (hJ : Goes9 B (x3 + 5) J) : wc_294 L xs J x3 ec a0 n0 r0 s a1 n1 r1 a2 n2 r2 a3 n3 r3 f g sm em hh := by
  rw [wc_294]
  refine ⟨hv1, hv2, ?_⟩
  generalize xs (x3 + 1).toNatClampNeg = x
  generalize xs (x3 + 2).toNatClampNeg = y
  rw [wp_X8_close]
  rcases place_cases x y with h | ⟨c, p, hc, hp, rfl, rfl⟩
  · refine x_isPlace_out h ⟨fun z => absurd rfl z, fun _ => x_fail fc2 ⟨hv1, hv2, ?_⟩⟩
    rw [wp_X9_close]
    exact m_isPort_out h ⟨fun z => absurd rfl z, fun _ => m_fails fc2 ⟨fun _ => hJ _ _ _ _ _ _ _ _ _ _ _ _ _ _ _ _ _ _ _ (hI.err (by decide)), fun y => y rfl⟩⟩
  · obtain ⟨s9, hs9, rfl, rfl, he, hS, hP9⟩ := id hI
    obtain ⟨t, ky, O, Q, q, z, cr, sv, LL, U, pt, gt, ⟨h1, h2, h3⟩, ⟨k1, k2, k3⟩, ⟨o1, o2⟩, hw, ⟨g1, g2, g3⟩, ⟨e1, e2, e3, e4⟩, ⟨p1, p2, p3, p4, p5⟩, ⟨u1, u2, u3, u4⟩, ⟨s1, s2, s3, s4⟩⟩ := id hS
    have h88 := p3 (8 * c + p) (by omega)
    refine x_isPlace_in hc hp ⟨fun _ => x_placeOf (x_isConnected p1 p3 (by omega) (fun w => ⟨fun y => absurd rfl y, fun _ => x_fail fc9 ⟨hv1, hv2, ?_⟩⟩) (fun w => ⟨fun _ => x_save hs9 hS hP9 (fun a1' n1' r1' a2' n2' r2' a3' n3' r3' hg => ?_), fun y => absurd y one_ne⟩)), fun y => absurd y one_ne⟩
    · rw [wp_X9_close]
      exact m_isPort_in hc hp ⟨fun _ => m_isConnected p2 p3 hc hp (fun _ => ⟨fun y => absurd rfl y, fun _ => m_fails fc9 ⟨fun _ => hJ _ _ _ _ _ _ _ _ _ _ _ _ _ _ _ _ _ _ _ (hI.err (by decide)), fun y => y rfl⟩⟩) (fun w => by omega), fun y => absurd y one_ne⟩
    · rw [wp_X4_disconnect, nI_clamp (by omega), p4]
      refine ⟨vp_in_nI (by omega) (by decide), fun b4 eb4 => ?_⟩
      have hb4 : PC (nup Q (8 * c + p) 0) b4 := by rw [eb4]; exact PC_nup p1
      have hq8 := Q_nup (p := 8 * c + p) (v := 0) p3 (by omega)
      have hcn := cnt_nup Q (p := 8 * c + p) (by omega) 0
      rw [if_pos w, if_neg (by omega)] at hcn
      have h5 : nI (cntP Q) - 1 = nI (cntP (nup Q (8 * c + p) 0)) := by
        rw [show nI (cntP Q) - 1 = nI (cntP Q - 1) from pk_sub (a := cntP Q) (b := 1) (by omega)]
        congr 1
        omega
      rw [h5]
      refine x_countOf hb4 hq8 hc ?_
      have hc8 := cntC_le (nup Q (8 * c + p) 0) c
      rw [show (0 : Int32) = nI 0 from rfl, nI_eq (by omega) (by decide)]
      refine ⟨fun x => ⟨hv1, hv2, ?_⟩, fun x => ?_⟩
      · refine m_close p2 p3 hc hp w hs9 (fun _ g' f' hg' ef => ⟨fun _ => hJ _ _ _ _ _ _ _ _ _ _ _ _ _ _ _ _ _ _ _ (Inv.after he ?_ (hg g' hg')), fun y => y rfl⟩) (fun x0 => absurd x0 x)
        have ho : ∀ j, j ≠ 40 + (8 * c + p) → f' j = f j := fun j a => by rw [ef, pk_un a]
        exact ⟨t, ky, O, nup Q (8 * c + p) 0, q, z, cr, sv, LL, U, pt, gt, ⟨by omega, h2, by rw [ho 0 (by omega)]; exact h3⟩, ⟨k1, k2, by rw [ho 1 (by omega)]; exact k3⟩, ⟨o1, by rw [ho 2 (by omega)]; exact o2⟩, by rw [ho 5 (by omega)]; exact hw, ⟨g1, g2.out (fun j _ _ => ho j (by omega)), by omega⟩, ⟨e1, e2, e3.out e4.1.1 (ho 3 (by omega)) (fun j _ _ => ho j (by omega)), e4⟩, ⟨hb4, by rw [ef]; exact PM_nup p2, hq8, rfl, by omega⟩, ⟨u1, u2, u3.out u4.1 (ho 4 (by omega)) (fun j _ _ => ho j (by omega)), u4⟩, ⟨s1, s2.out s3 (ho 6 (by omega)) (ho 7 (by omega)) (fun j _ _ => ho j (by omega)), s3, by omega⟩⟩
      · rw [wp_X5_dismiss, nI_clamp (by omega), s1.1 c hc]
        have v16 : vp_in (nI c) 16 := vp_in_nI hc (by decide)
        refine ⟨v16, v16, fun b8 eb8 => ⟨v16, fun b9 eb9 => ⟨hv1, hv2, ?_⟩⟩⟩
        refine m_close p2 p3 hc hp w hs9 (fun x0 => absurd x x0) (fun _ g' f8 f11 f12 hg' ef8 ef11 ef12 => ⟨fun _ => hJ _ _ _ _ _ _ _ _ _ _ _ _ _ _ _ _ _ _ _ (Inv.after he ?_ (hg g' hg')), fun y => y rfl⟩)
        have ho8 : ∀ j, j ≠ 40 + (8 * c + p) → f8 j = f j := fun j a => by rw [ef8, pk_un a]
        have ho : ∀ j, j ≠ 40 + (8 * c + p) → j ≠ 228 + c → j ≠ 372 + c → f12 j = f j := fun j a a2 a3 => by rw [ef12, pk_un a3, ef11, pk_un a2, ho8 j a]
        have hM8 : SrvM q z cr sv pt gt f8 := s2.out s3 (ho8 6 (by omega)) (ho8 7 (by omega)) (fun j _ _ => ho8 j (by omega))
        have hM12 := M_dis hM8 s3 hc
        rw [← ef11, ← ef12] at hM12
        have hC := C_dis s1 hc
        rw [show upd (r0 8) c (nI 0) = b8 from eb8.symm, show upd (r0 9) c (nI 0) = b9 from eb9.symm] at hC
        have hP8 : PM (nup Q (8 * c + p) 0) f8 := by rw [ef8]; exact PM_nup p2
        have htd := tot_dis (q := q) (z := z) (sv := sv) (c := c)
        exact ⟨t, ky, O, nup Q (8 * c + p) 0, nup q c 0, z, nup cr c 0, sv, LL, U, pt, gt, ⟨by omega, h2, by rw [ho 0 (by omega) (by omega) (by omega)]; exact h3⟩, ⟨k1, k2, by rw [ho 1 (by omega) (by omega) (by omega)]; exact k3⟩, ⟨o1, by rw [ho 2 (by omega) (by omega) (by omega)]; exact o2⟩, by rw [ho 5 (by omega) (by omega) (by omega)]; exact hw, ⟨g1, g2.out (fun j _ _ => ho j (by omega) (by omega) (by omega)), by omega⟩, ⟨e1, e2, e3.out e4.1.1 (ho 3 (by omega) (by omega) (by omega)) (fun j _ _ => ho j (by omega) (by omega) (by omega)), e4⟩, ⟨hb4, hP8.out (fun j _ _ => by rw [ef12, pk_un (by omega), ef11, pk_un (by omega)]), hq8, rfl, by omega⟩, ⟨u1, u2, u3.out u4.1 (ho 4 (by omega) (by omega) (by omega)) (fun j _ _ => ho j (by omega) (by omega) (by omega)), u4⟩, ⟨hC, hM12, I_dis s3 c, by omega⟩⟩
/-- one more request -/
theorem enq_z {q z : Nat → Nat} {c v i k : Nat} (h1 : ∀ i, i < 16 → q i ≤ 8) (hi : i < 16) (hq : q c < 8) (hk : k < nup q c (q c + 1) i) : (i = c ∧ k = q c ∧ nup z (8 * c + q c) v (8 * i + k) = v) ∨ (k < q i ∧ ¬ 8 * i + k = 8 * c + q c ∧ nup z (8 * c + q c) v (8 * i + k) = z (8 * i + k)) := by
  have := h1 i hi
  by_cases e : i = c
  · subst e
    rw [nup_s] at hk
    rcases Nat.lt_or_ge k (q i) with x | x
    · exact Or.inr ⟨x, by omega, nup_n (by omega)⟩
    · have : k = q i := by omega
      subst this
      exact Or.inl ⟨rfl, rfl, nup_s⟩
  · rw [nup_n e] at hk
    exact Or.inr ⟨hk, by omega, nup_n (by omega)⟩
theorem I_enq {q z cr sv : Nat → Nat} {pt gt c v : Nat} (h : SrvI q z cr sv pt gt) (hq : q c < 8) (hv : 1 ≤ v ∧ v ≤ 9) : SrvI (nup q c (q c + 1)) (nup z (8 * c + q c) v) cr sv pt gt := by
  obtain ⟨h1, h2, h3, h4, h5, h6, h7⟩ := h
  refine ⟨fun i hi => ?_, fun i k hi hk => ?_, h3, h4, h5, h6, h7⟩
  · by_cases e : i = c
    · subst e; rw [nup_s]; omega
    · rw [nup_n e]; exact h1 i hi
  · rcases enq_z (z := z) (v := v) h1 hi hq hk with ⟨-, -, e⟩ | ⟨a, -, e⟩
    · rw [e]; exact hv
    · rw [e]; exact h2 i k hi a
theorem tot_enq {q z sv : Nat → Nat} {c v : Nat} (h1 : ∀ i, i < 16 → q i ≤ 8) (hc : c < 16) (hq : q c < 8) : tot (nup q c (q c + 1)) (nup z (8 * c + q c) v) sv = tot q z sv + v := by
  unfold tot
  have e := sm_at (f := fun i => sv i + qs q z i) (g := fun i => sv i + qs (nup q c (q c + 1)) (nup z (8 * c + q c) v) i) hc (fun i hi hn => by
    show sv i + qs (nup q c (q c + 1)) (nup z (8 * c + q c) v) i = sv i + qs q z i
    unfold qs
    rw [nup_n hn]
    congr 1
    refine fb_sm_cong (fun k hk => ?_)
    have := h1 i hi
    exact nup_n (by omega))
  have e2 : qs (nup q c (q c + 1)) (nup z (8 * c + q c) v) c = qs q z c + v := by
    unfold qs
    rw [nup_s, fb_sm_succ]
    congr 1
    · exact fb_sm_cong (fun k hk => nup_n (by omega))
    · exact nup_s
  simp only [e2] at e
  omega
theorem C_enq {q z cr sv : Nat → Nat} {pt gt c v : Nat} {a b d e : Nat → Int32} {w p g : Int32} (h : SrvC q z cr sv pt gt a b d e w p g) (hI : SrvI q z cr sv pt gt) (hc : c < 16) (hq : q c < 8) : SrvC (nup q c (q c + 1)) (nup z (8 * c + q c) v) cr sv pt gt (upd a (8 * c + q c) (nI v)) (upd b c (nI (q c + 1))) d e (w + 1) p g := by
  obtain ⟨hb, ha, hd, he, hw, hp, hg⟩ := h
  refine ⟨arr_nup hb, fun i k hi hk => ?_, hd, he, ?_, hp, hg⟩
  · rcases enq_z (z := z) (v := v) hI.1 hi hq hk with ⟨e1, e2, e⟩ | ⟨x, y, e⟩
    · subst e1; subst e2; rw [e, pk_us]
    · rw [e, pk_un y]; exact ha i k hi x
  · have e := sm_nup q (q c + 1) (n := 16) hc
    rw [hw, nI_1]
    congr 1
    omega
theorem M_enq {q z cr sv : Nat → Nat} {pt gt c v : Nat} {f : Nat → Int32} (h : SrvM q z cr sv pt gt f) (hI : SrvI q z cr sv pt gt) (hc : c < 16) (hq : q c < 8) : SrvM (nup q c (q c + 1)) (nup z (8 * c + q c) v) cr sv pt gt (upd (upd f (244 + (8 * c + q c)) (nI v)) (228 + c) (nI (q c + 1))) := by
  obtain ⟨a1, a2, a3, a4, a5, a6⟩ := h
  have ho : ∀ j, j ≠ 228 + c → j ≠ 244 + (8 * c + q c) → upd (upd f (244 + (8 * c + q c)) (nI v)) (228 + c) (nI (q c + 1)) j = f j := fun j x y => by rw [pk_un x, pk_un y]
  refine ⟨fun i hi => ?_, fun i k hi hk => ?_, fun i hi => by rw [ho _ (by omega) (by omega)]; exact a3 i hi, fun i hi => by rw [ho _ (by omega) (by omega)]; exact a4 i hi, by rw [ho _ (by omega) (by omega)]; exact a5, by rw [ho _ (by omega) (by omega)]; exact a6⟩
  · by_cases e : i = c
    · subst e; rw [pk_us, nup_s]
    · rw [ho _ (by omega) (by omega), nup_n e]; exact a1 i hi
  · rcases enq_z (z := z) (v := v) hI.1 hi hq hk with ⟨e1, e2, e⟩ | ⟨x, y, e⟩
    · subst e1; subst e2
      rw [e, show 244 + 8 * i + q i = 244 + (8 * i + q i) by omega, pk_un (by omega), pk_us]
    · rw [e, ho _ (by omega) (by omega)]; exact a2 i k hi x
theorem cs_request (hv1 : vp_in (x3 + 1) L) (hv2 : vp_in (x3 + 2) L) (hI : Inv B ec n0 r0 s n1 r1 n2 r2 n3 r3 f g sm em) (hJ : Goes9 B (x3 + 5) J) : wc_573 L xs J x3 ec a0 n0 r0 s a1 n1 r1 a2 n2 r2 a3 n3 r3 f g sm em hh := by
  rw [wc_573]
  refine ⟨hv1, hv2, ?_⟩
  generalize xs (x3 + 1).toNatClampNeg = x
  generalize xs (x3 + 2).toNatClampNeg = y
  rw [wp_X8_request]
  rcases client_cases x with h | ⟨c, hc, rfl⟩
  · refine x_isClient_out h ⟨fun _ => x_fail fc2 ⟨hv1, hv2, ?_⟩, fun z => absurd rfl z⟩
    rw [wp_X9_request]
    exact m_isClient_out h ⟨fun _ => m_fails fc2 ⟨fun _ => hJ _ _ _ _ _ _ _ _ _ _ _ _ _ _ _ _ _ _ _ (hI.err (by decide)), fun y => y rfl⟩, fun z => absurd rfl z⟩
  refine x_isClient_in hc ⟨fun z => absurd z one_ne, fun _ => ?_⟩
  rcases rng (x := y) (lo := 1) (hi := 9) (l := 1) (h := 9) rfl rfl (by decide) (by decide) with h | ⟨v, hva, hvb, rfl⟩
  · refine x_within_out h ⟨fun z => absurd rfl z, fun _ => x_fail fc2 ⟨hv1, hv2, ?_⟩⟩
    rw [wp_X9_request]
    exact m_isClient_in hc ⟨fun z => absurd z one_ne, fun _ => m_within_out h ⟨fun z => absurd rfl z, fun _ => m_fails fc2 ⟨fun _ => hJ _ _ _ _ _ _ _ _ _ _ _ _ _ _ _ _ _ _ _ (hI.err (by decide)), fun y => y rfl⟩⟩⟩
  obtain ⟨s9, hs9, rfl, rfl, he, hS, hP9⟩ := id hI
  obtain ⟨t, ky, O, Q, q, z, cr, sv, LL, U, pt, gt, ⟨h1, h2, h3⟩, ⟨k1, k2, k3⟩, ⟨o1, o2⟩, hw, ⟨g1, g2, g3⟩, ⟨e1, e2, e3, e4⟩, ⟨p1, p2, p3, p4, p5⟩, ⟨u1, u2, u3, u4⟩, ⟨s1, s2, s3, s4⟩⟩ := id hS
  have hq8 := s3.1 c hc
  have v16 : vp_in (nI c) 16 := vp_in_nI hc (by decide)
  have v4 : vp_in (nI (228 + c)) 404 := vp_in_nI (by omega) (by decide)
  have hcC := cntC_le Q c
  refine x_within_in (l := 1) (h := 9) rfl rfl rfl hva hvb (by decide) ⟨fun _ => ⟨v16, ?_⟩, fun z => absurd z one_ne⟩
  rw [nI_clamp (by omega), s1.1 c hc, show (8 : Int32) = nI 8 from rfl, nI_ltI (by omega) (by decide)]
  refine ⟨fun hlt => x_countOf p1 p3 hc ?_, fun hge => x_fail fc4 ⟨hv1, hv2, ?_⟩⟩
  · rw [show (0 : Int32) = nI 0 from rfl, nI_eq (by omega) (by decide)]
    refine ⟨fun hne => x_save hs9 hS hP9 (fun a1' n1' r1' a2' n2' r2' a3' n3' r3' hg => ?_), fun h0 => x_fail fc9 ⟨hv1, hv2, ?_⟩⟩
    · rw [wp_X5_enqueue, nI_clamp (by omega), s1.1 c hc, show (8 : Int32) = nI 8 from rfl, nI_ltI (by omega) (by decide), pk_mul, nI_add, show c * 8 + q c = 8 * c + q c by omega, nI_clamp (by omega), nI_1]
      refine ⟨v16, fun _ => ⟨v16, vp_in_nI (by omega) (by decide), fun b7 eb7 => ⟨v16, v16, fun b8 eb8 => ⟨v16, hv1, hv2, ?_⟩⟩⟩, fun x => absurd hlt x⟩
      rw [wp_X9_request]
      refine m_isClient_in hc ⟨fun z => absurd z one_ne, fun _ => m_within_in (l := 1) (h := 9) rfl rfl rfl hva hvb (by decide) ⟨fun _ => ?_, fun z => absurd z one_ne⟩⟩
      rw [show (228 : Int32) + nI c = nI (228 + c) from ix, nI_clamp (by omega), s2.1 c hc, show (8 : Int32) = nI 8 from rfl, nI_eq (by omega) (by decide)]
      refine ⟨v4, fun _ => m_connectionsOf p2 p3 hc ?_, fun x => by omega⟩
      rw [show (0 : Int32) = nI 0 from rfl, nI_eq (by omega) (by decide), pk_mul, show (244 : Int32) + nI (8 * c) = nI (244 + 8 * c) from ix, nI_add, nI_clamp (by omega), show 244 + 8 * c + q c = 244 + (8 * c + q c) by omega]
      refine ⟨fun _ => m_saves hs9 (fun g' hg' => ⟨v4, vp_in_nI (by omega) (by decide), fun f12 e12 => ⟨v4, v4, fun f13 e13 => ⟨v4, ?_⟩⟩⟩), fun x => absurd x hne⟩
      have e228 : f12 (228 + c) = nI (q c) := by rw [e12, pk_un (by omega)]; exact s2.1 c hc
      rw [e228, nI_1] at e13
      have ho : ∀ j, j ≠ 228 + c → j ≠ 244 + (8 * c + q c) → f13 j = f j := fun j x y => by rw [e13, pk_un x, e12, pk_un y]
      have hC := C_enq (v := v) s1 s3 hc hlt
      have hM := M_enq (v := v) s2 s3 hc hlt
      rw [← eb7, ← eb8] at hC
      rw [← e12, ← e13] at hM
      have htot := tot_enq (z := z) (sv := sv) (v := v) s3.1 hc hlt
      have ers : b8 c = f13 (228 + c) := by rw [eb8, e13, pk_us, pk_us]
      have hJ9 := hJ ec a0 (upd n0 7 (n0 7 + 1)) (va_up (va_up r0 7 b7) 8 b8) (nI (nxt s9)) a1' n1' r1' a2' n2' r2' a3' n3' r3' f13 g' (nI (nxt s9)) em hh (Inv.after he ?_ (hg g' hg'))
      · exact ⟨fun _ => hJ9, fun y => y ers⟩
      · exact ⟨t, ky, O, Q, nup q c (q c + 1), nup z (8 * c + q c) v, cr, sv, LL, U, pt, gt, ⟨by omega, h2, by rw [ho 0 (by omega) (by omega)]; exact h3⟩, ⟨k1, k2, by rw [ho 1 (by omega) (by omega)]; exact k3⟩, ⟨o1, by rw [ho 2 (by omega) (by omega)]; exact o2⟩, by rw [ho 5 (by omega) (by omega)]; exact hw, ⟨g1, g2.out (fun j _ _ => ho j (by omega) (by omega)), by omega⟩, ⟨e1, e2, e3.out e4.1.1 (ho 3 (by omega) (by omega)) (fun j _ _ => ho j (by omega) (by omega)), e4⟩, ⟨p1, p2.out (fun j _ _ => ho j (by omega) (by omega)), p3, p4, p5⟩, ⟨u1, u2, u3.out u4.1 (ho 4 (by omega) (by omega)) (fun j _ _ => ho j (by omega) (by omega)), u4⟩, ⟨hC, hM, I_enq s3 hlt ⟨hva, hvb⟩, by omega⟩⟩
    · rw [wp_X9_request]
      refine m_isClient_in hc ⟨fun z => absurd z one_ne, fun _ => m_within_in (l := 1) (h := 9) rfl rfl rfl hva hvb (by decide) ⟨fun _ => ?_, fun z => absurd z one_ne⟩⟩
      rw [show (228 : Int32) + nI c = nI (228 + c) from ix, nI_clamp (by omega), s2.1 c hc, show (8 : Int32) = nI 8 from rfl, nI_eq (by omega) (by decide)]
      refine ⟨v4, fun _ => m_connectionsOf p2 p3 hc ⟨fun x => absurd (by rw [h0]; rfl) x, fun _ => m_fails fc9 ⟨fun _ => hJ _ _ _ _ _ _ _ _ _ _ _ _ _ _ _ _ _ _ _ (hI.err (by decide)), fun y => y rfl⟩⟩, fun x => by omega⟩
  · rw [wp_X9_request]
    refine m_isClient_in hc ⟨fun z => absurd z one_ne, fun _ => m_within_in (l := 1) (h := 9) rfl rfl rfl hva hvb (by decide) ⟨fun _ => ?_, fun z => absurd z one_ne⟩⟩
    rw [show (228 : Int32) + nI c = nI (228 + c) from ix, nI_clamp (by omega), s2.1 c hc, show (8 : Int32) = nI 8 from rfl, nI_eq (by omega) (by decide)]
    exact ⟨v4, fun x => absurd (show q c = 8 by omega) x, fun _ => m_fails fc4 ⟨fun _ => hJ _ _ _ _ _ _ _ _ _ _ _ _ _ _ _ _ _ _ _ (hI.err (by decide)), fun y => y rfl⟩⟩
def Is7 (q z cr sv : Nat → Nat) (pt gt dn : Nat) : KA := fun q' z' cr' sv' pt' gt' dn' => q' = q ∧ z' = z ∧ cr' = cr ∧ sv' = sv ∧ pt' = pt ∧ gt' = gt ∧ dn' = dn
theorem Srv_one (A : KA) : ∀ (n : Nat) (q z cr sv : Nat → Nat) (pt gt rest dn : Nat), Srv n q z cr sv pt gt rest dn A → ∃ (q' z' cr' sv' : Nat → Nat) (pt' gt' dn' : Nat), A q' z' cr' sv' pt' gt' dn' ∧ Srv n q z cr sv pt gt rest dn (Is7 q' z' cr' sv' pt' gt' dn') := by
  intro n
  induction n with
  | zero => intro q z cr sv pt gt rest dn h; exact absurd h (fun x => x)
  | succ n ih =>
    intro q z cr sv pt gt rest dn h
    obtain ⟨ha, hb⟩ := h
    by_cases hw : fb_sm q 16 = 0
    · exact ⟨q, z, cr, sv, pt, gt, dn, ha hw, fun _ => ⟨rfl, rfl, rfl, rfl, rfl, rfl, rfl⟩, fun x => by omega⟩
    · have hb := hb (by omega)
      unfold Srv
      generalize (if 0 < q pt ∧ gt = 0 then nup cr pt (cr pt + 4) else cr) = cr2 at hb ⊢
      generalize (if 0 < q pt ∧ gt = 0 then 1 else gt) = gt2 at hb ⊢
      by_cases hm : q pt = 0 ∨ cr2 pt < z (8 * pt)
      · obtain ⟨q', z', cr', sv', pt', gt', dn', i1, i2⟩ := ih _ _ _ _ _ _ _ _ (hb.1 hm)
        exact ⟨q', z', cr', sv', pt', gt', dn', i1, fun x => absurd x hw, fun _ => ⟨fun _ => i2, fun x y => by omega⟩⟩
      · have m1 : 0 < q pt := by omega
        have m2 : z (8 * pt) ≤ cr2 pt := by omega
        have hb2 := hb.2 m1 m2
        by_cases hr : rest < z (8 * pt)
        · exact ⟨q, z, cr2, sv, pt, gt2, dn, hb2.1 hr, fun x => absurd x hw, fun _ => ⟨fun x => absurd x hm, fun _ _ => ⟨fun _ => ⟨rfl, rfl, rfl, rfl, rfl, rfl, rfl⟩, fun x => by omega⟩⟩⟩
        · have hb3 := hb2.2 (by omega)
          by_cases h1 : q pt = 1
          · obtain ⟨q', z', cr', sv', pt', gt', dn', i1, i2⟩ := ih _ _ _ _ _ _ _ _ (hb3.1 h1)
            exact ⟨q', z', cr', sv', pt', gt', dn', i1, fun x => absurd x hw, fun _ => ⟨fun x => absurd x hm, fun _ _ => ⟨fun x => absurd x hr, fun _ => ⟨fun _ => i2, fun x => by omega⟩⟩⟩⟩
          · obtain ⟨q', z', cr', sv', pt', gt', dn', i1, i2⟩ := ih _ _ _ _ _ _ _ _ (hb3.2 (by omega))
            exact ⟨q', z', cr', sv', pt', gt', dn', i1, fun x => absurd x hw, fun _ => ⟨fun x => absurd x hm, fun _ _ => ⟨fun x => absurd x hr, fun _ => ⟨fun x => absurd x h1, fun _ => i2⟩⟩⟩⟩
theorem cs_serve (hB : B ≤ 600) (hv1 : vp_in (x3 + 1) L) (hI : Inv B ec n0 r0 s n1 r1 n2 r2 n3 r3 f g sm em) (hJ : Goes9 B (x3 + 5) J) : wc_606 L xs J x3 ec a0 n0 r0 s a1 n1 r1 a2 n2 r2 a3 n3 r3 f g sm em hh := by
  rw [wc_606]
  refine ⟨hv1, ?_⟩
  generalize xs (x3 + 1).toNatClampNeg = x
  rw [wp_X8_serve]
  rcases rng (x := x) (lo := 0) (hi := 200) (l := 0) (h := 200) rfl rfl (by decide) (by decide) with h | ⟨d, -, hd, rfl⟩
  · refine x_within_out h ⟨fun z => absurd rfl z, fun _ => x_fail fc2 ⟨hv1, ?_⟩⟩
    rw [wp_X9_serve]
    exact m_within_out h ⟨fun z => absurd rfl z, fun _ => m_fails fc2 ⟨fun _ => hJ _ _ _ _ _ _ _ _ _ _ _ _ _ _ _ _ _ _ _ (hI.err (by decide)), fun y => y rfl⟩⟩
  · obtain ⟨s9, hs9, rfl, rfl, he, hS, hP9⟩ := id hI
    refine x_within_in (l := 0) (h := 200) rfl rfl rfl (by omega) hd (by decide) ⟨fun _ => x_save hs9 hS hP9 (fun a1' n1' r1' a2' n2' r2' a3' n3' r3' hg => ?_), fun y => absurd y one_ne⟩
    obtain ⟨t, ky, O, Q, q, z, cr, sv, LL, U, pt, gt, ⟨h1, h2, h3⟩, ⟨k1, k2, k3⟩, ⟨o1, o2⟩, hw, ⟨g1, g2, g3⟩, ⟨e1, e2, e3, e4⟩, ⟨p1, p2, p3, p4, p5⟩, ⟨u1, u2, u3, u4⟩, ⟨s1, s2, s3, s4⟩⟩ := hS
    have hcap := Cap_of s3 s4 (T := 9 * B) (by omega)
    obtain ⟨q', z', cr', sv', pt', gt', dn', ⟨hI', ht'⟩, hR⟩ := Srv_one (Fin9 (9 * B)) 9001 q z cr sv pt gt d 0 (Srv_run d s3 s4 (by omega))
    refine x_spend (A := Is7 q' z' cr' sv' pt' gt' dn') (fun qa za ca sa pa ga da b7 b8 b9 b10 w7 w8 w9 hA hC => ⟨hv1, ?_⟩) (by decide) (by omega) s1 s3 hcap hR
    obtain ⟨rfl, rfl, rfl, rfl, rfl, rfl, rfl⟩ := hA
    rw [wp_X9_serve]
    refine m_within_in (l := 0) (h := 200) rfl rfl rfl (by omega) hd (by decide) ⟨fun _ => m_saves hs9 (fun g' hg' => ⟨9002, m_serve_n (f0 := f) (Is7 qa za ca sa pa ga da) _ (fun qb zb cb sb pb gb db f' hA2 hM hk => ?_) (nI d) 9001 q z cr sv pt gt d 0 9002 f (by omega) (by omega) (by omega) s2 s3 hcap KeepS.rf hR⟩), fun y => absurd y one_ne⟩
    obtain ⟨rfl, rfl, rfl, rfl, rfl, rfl, rfl⟩ := hA2
    refine ⟨fun _ => hJ _ _ _ _ _ _ _ _ _ _ _ _ _ _ _ _ _ _ _ (Inv.after he ?_ (hg g' hg')), fun y => y rfl⟩
    exact ⟨t, ky, O, Q, qb, zb, cb, sb, LL, U, pb, gb, ⟨by omega, h2, by rw [hk 0 (by omega)]; exact h3⟩, ⟨k1, k2, by rw [hk 1 (by omega)]; exact k3⟩, ⟨o1, by rw [hk 2 (by omega)]; exact o2⟩, by rw [hk 5 (by omega)]; exact hw, ⟨g1, g2.out (fun j _ _ => hk j (by omega)), by omega⟩, ⟨e1, e2, e3.out e4.1.1 (hk 3 (by omega)) (fun j _ _ => hk j (by omega)), e4⟩, ⟨p1, p2.out (fun j _ _ => hk j (by omega)), p3, p4, p5⟩, ⟨u1, u2, u3.out u4.1 (hk 4 (by omega)) (fun j _ _ => hk j (by omega)), u4⟩, ⟨hC, hM, hI', by omega⟩⟩
end CS4
