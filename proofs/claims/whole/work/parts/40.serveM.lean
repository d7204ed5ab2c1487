/-! pure facts: the model's serving follows the abstract run -/
def SrvM (q z cr sv : Nat → Nat) (pt gt : Nat) (f : Nat → Int32) : Prop :=
  (∀ i, i < 16 → f (228 + i) = nI (q i)) ∧ (∀ i k, i < 16 → k < q i → f (244 + 8 * i + k) = nI (z (8 * i + k))) ∧ (∀ i, i < 16 → f (372 + i) = nI (cr i)) ∧ (∀ i, i < 16 → f (388 + i) = nI (sv i)) ∧ f 6 = nI pt ∧ f 7 = nI gt
def KeepS (f f' : Nat → Int32) : Prop := ∀ j, (j < 6 ∨ (8 ≤ j ∧ j < 228)) → f' j = f j
theorem KeepS.rf {f : Nat → Int32} : KeepS f f := fun _ _ => rfl
theorem KeepS.tr {f f' f'' : Nat → Int32} (h : KeepS f f') (h2 : KeepS f' f'') : KeepS f f'' := fun j hj => (h2 j hj).trans (h j hj)
theorem m_wait_loop {q : Nat → Nat} {f g e : Nat → Int32} {s : Int32} {hh : Int64} (h : ∀ i, i < 16 → f (228 + i) = nI (q i)) {K : Int32 → Prop} (k : K (nI (fb_sm q 16))) : ∀ (n i : Nat), i + n = 17 → i ≤ 16 → wpl_X9_waiting_4 f g s e hh K n (nI (fb_sm q i)) (nI i) := by
  intro n
  induction n with
  | zero => intro i h1 h2; omega
  | succ n ih =>
    intro i h1 h2
    rw [wpl_X9_waiting_4]
    rcases Nat.lt_or_ge i 16 with y | y
    · refine ⟨fun x => absurd x (by rw [show (16 : Int32) = nI 16 from rfl, nI_leI (by decide) (by omega)]; omega), fun _ => ?_⟩
      rw [show (228 : Int32) = nI 228 from rfl, nI_add]
      refine ⟨vp_in_nI (by omega) (by decide), ?_⟩
      rw [nI_clamp (by omega), h i y, nI_add, nI_1]
      exact ih (i + 1) (by omega) (by omega)
    · have : i = 16 := by omega
      subst this
      exact ⟨fun _ => k, fun x => absurd (by decide) x⟩
theorem m_waiting {q : Nat → Nat} {f g e : Nat → Int32} {s : Int32} {hh : Int64} (h : ∀ i, i < 16 → f (228 + i) = nI (q i)) {K : Int32 → Prop} (k : K (nI (fb_sm q 16))) : wp_X9_waiting f g s e hh K := by
  rw [wp_X9_waiting]
  exact ⟨17, m_wait_loop h k 17 0 (by omega) (by omega)⟩
section MS
variable {q z cr sv : Nat → Nat} {pt gt : Nat} {f g e : Nat → Int32} {s : Int32} {hh : Int64}
theorem ix {k p : Nat} : (OfNat.ofNat k : Int32) + nI p = nI (k + p) := by rw [fa_lit, nI_add]
theorem m_moves (h : SrvM q z cr sv pt gt f) (hI : SrvI q z cr sv pt gt) {K : (Nat → Int32) → Prop} (k : ∀ f', SrvM q z (mvc cr q pt) sv ((pt + 1) % 16) 0 f' → KeepS f f' → K f') : wp_X9_moves f g s e hh K := by
  obtain ⟨hq, hz, hc, hv, hp, hg⟩ := h
  obtain ⟨h1, h2, h3, h4, h5, h6, h7⟩ := hI
  have h8 := h1 pt h5
  have h12 := h3 pt h5
  have ej : jrem (nI pt + 1) 16 = nI ((pt + 1) % 16) := by
    rw [nI_1, show (16 : Int32) = nI 16 from rfl, jrem_nI (by omega) (by decide) (by decide)]
  have e1 : (228 : Int32) + nI pt = nI (228 + pt) := ix
  have e2 : (372 : Int32) + nI pt = nI (372 + pt) := ix
  rw [wp_X9_moves, hp, e1, e2, nI_clamp (by omega), nI_clamp (by omega), hq pt h5, hc pt h5, ej, show (0 : Int32) = nI 0 from rfl, nI_eq (by omega) (by decide)]
  have v1 : vp_in (nI (228 + pt)) 404 := vp_in_nI (by omega) (by decide)
  have v2 : vp_in (nI (372 + pt)) 404 := vp_in_nI (by omega) (by decide)
  have fin : ∀ (x : Nat) (f4 : Nat → Int32), x = mvc cr q pt pt → f4 = upd (upd (upd f (372 + pt) (nI x)) 6 (nI ((pt + 1) % 16))) 7 (nI 0) → K f4 := fun x f4 ex e4 => by
    have ho : ∀ j, j ≠ 372 + pt → j ≠ 6 → j ≠ 7 → f4 j = f j := fun j a b c => by rw [e4, pk_un c, pk_un b, pk_un a]
    refine k f4 ⟨fun i hi => ?_, fun i kk hi hk => ?_, fun i hi => ?_, fun i hi => ?_, ?_, ?_⟩ (fun j hj => ho j (by omega) (by omega) (by omega))
    · rw [ho _ (by omega) (by omega) (by omega)]; exact hq i hi
    · have := h1 i hi
      rw [ho _ (by omega) (by omega) (by omega)]; exact hz i kk hi hk
    · by_cases e9 : i = pt
      · subst e9
        rw [e4, pk_un (by omega), pk_un (by omega), pk_us, ex]
      · rw [ho _ (by omega) (by omega) (by omega)]
        have : mvc cr q pt i = cr i := by
          unfold mvc
          split
          · exact nup_n e9
          · rfl
        rw [this]; exact hc i hi
    · rw [ho _ (by omega) (by omega) (by omega)]; exact hv i hi
    · rw [e4, pk_un (by omega), pk_us]
    · rw [e4, pk_us]
  refine ⟨v1, fun y => ⟨v2, v2, fun f2 ef2 f3 ef3 f4 ef4 => fin (cr pt) f4 ?_ (by rw [ef4, ef3, ef2])⟩, fun y => ⟨v2, fun f5 ef5 f6 ef6 f7 ef7 => fin 0 f7 ?_ (by rw [ef7, ef6, ef5])⟩⟩
  · unfold mvc; rw [if_neg y]
  · unfold mvc; rw [if_pos y, nup_s]
theorem m_takes_loop {m : Nat} (hm : m ≤ 7) (h5 : pt < 16) {x2 : Int32} {f0 : Nat → Int32} {K : Int32 → (Nat → Int32) → Prop} (k : ∀ f', (∀ j, ¬ (244 + 8 * pt ≤ j ∧ j < 244 + 8 * pt + m) → f' j = f0 j) → (∀ j, 244 + 8 * pt ≤ j → j < 244 + 8 * pt + m → f' j = f0 (j + 1)) → K x2 (upd (upd f' (372 + pt) (f' (372 + pt) - x2)) (388 + pt) (f' (388 + pt) + x2))) : ∀ (n i : Nat) (f : Nat → Int32), i + n = m + 1 → i ≤ m → f (228 + pt) = nI m → (∀ j, ¬ (244 + 8 * pt ≤ j ∧ j < 244 + 8 * pt + i) → f j = f0 j) → (∀ j, 244 + 8 * pt ≤ j → j < 244 + 8 * pt + i → f j = f0 (j + 1)) → wpl_X9_takes_30 g s e hh K n (nI pt) x2 (nI i) f := by
  have e1 : (228 : Int32) + nI pt = nI (228 + pt) := ix
  have e2 : (372 : Int32) + nI pt = nI (372 + pt) := ix
  have e3 : (388 : Int32) + nI pt = nI (388 + pt) := ix
  have e4 : (244 : Int32) + 8 * nI pt = nI (244 + 8 * pt) := by rw [show (8 : Int32) = nI 8 from rfl, pk_mul]; exact ix
  intro n
  induction n with
  | zero => intro i f h1 h2; omega
  | succ n ih =>
    intro i f h1 h2 hf ho hi
    rw [wpl_X9_takes_30, e1, e2, e3, e4, nI_clamp (by omega), nI_clamp (by omega), nI_clamp (by omega), hf]
    refine ⟨vp_in_nI (by omega) (by decide), fun y => ?_, fun y => ?_⟩
    · rw [nI_leI (by omega) (by omega)] at y
      have ie : i = m := by omega
      subst ie
      refine ⟨vp_in_nI (by omega) (by decide), vp_in_nI (by omega) (by decide), fun f3 ef3 => ⟨vp_in_nI (by omega) (by decide), vp_in_nI (by omega) (by decide), fun f4 ef4 => ?_⟩⟩
      have := k f ho hi
      subst ef3
      rw [pk_un (by omega)] at ef4
      subst ef4
      exact this
    · rw [nI_leI (by omega) (by omega)] at y
      rw [nI_add, nI_1, nI_1]
      refine ⟨vp_in_nI (by omega) (by decide), vp_in_nI (by omega) (by decide), fun f5 ef5 => ?_⟩
      rw [nI_clamp (by omega), nI_clamp (by omega)] at ef5
      subst ef5
      refine ih (i + 1) _ (by omega) (by omega) (by rw [pk_un (by omega)]; exact hf) (fun j hj => ?_) (fun j hj hn => ?_)
      · rw [pk_un (fun x => hj (by omega))]
        exact ho j (fun x => hj (by omega))
      · by_cases x : j = 244 + 8 * pt + i
        · subst x
          rw [pk_us]
          exact ho _ (by omega)
        · rw [pk_un x]
          exact hi j hj (by omega)
theorem m_takes (h : SrvM q z cr sv pt gt f) (hI : SrvI q z cr sv pt gt) (hq0 : 0 < q pt) (hcz : z (8 * pt) ≤ cr pt) {K : Int32 → (Nat → Int32) → Prop} (k : ∀ f', SrvM (nup q pt (q pt - 1)) (tkz z pt (q pt - 1)) (nup cr pt (cr pt - z (8 * pt))) (nup sv pt (sv pt + z (8 * pt))) pt gt f' → KeepS f f' → K (nI (z (8 * pt))) f') : wp_X9_takes f g s e hh (nI pt) K := by
  obtain ⟨hq, hz, hc, hv, hp, hg⟩ := h
  obtain ⟨h1, h2, h3, h4, h5, h6, h7⟩ := hI
  have h8 := h1 pt h5
  have e1 : (228 : Int32) + nI pt = nI (228 + pt) := ix
  have e4 : (244 : Int32) + 8 * nI pt = nI (244 + 8 * pt) := by rw [show (8 : Int32) = nI 8 from rfl, pk_mul]; exact ix
  have hz0 := hz pt 0 h5 hq0
  rw [Nat.add_zero, Nat.add_zero] at hz0
  rw [wp_X9_takes, e1, e4, nI_clamp (by omega), nI_clamp (by omega), hz0, hq pt h5, show nI (q pt) - 1 = nI (q pt - 1) from pk_sub (a := q pt) (b := 1) (by omega)]
  refine ⟨vp_in_nI (by omega) (by decide), vp_in_nI (by omega) (by decide), vp_in_nI (by omega) (by decide), fun f1 ef1 => ?_⟩
  have ho1 : ∀ j, j ≠ 228 + pt → f1 j = f j := fun j hj => by rw [ef1, pk_un hj]
  refine ⟨q pt - 1 + 1, m_takes_loop (m := q pt - 1) (by omega) h5 (fun f' ho hi => ?_) _ 0 f1 (by omega) (by omega) (by rw [ef1, pk_us]) (fun _ _ => rfl) (fun j hj hn => by omega)⟩
  have hO : ∀ j, j ≠ 228 + pt → j ≠ 372 + pt → j ≠ 388 + pt → ¬ (244 + 8 * pt ≤ j ∧ j < 244 + 8 * pt + (q pt - 1)) → upd (upd f' (372 + pt) (f' (372 + pt) - nI (z (8 * pt)))) (388 + pt) (f' (388 + pt) + nI (z (8 * pt))) j = f j := fun j a b c d => by
    rw [pk_un c, pk_un b, ho j d, ho1 j a]
  refine k _ ⟨fun i hi9 => ?_, fun i kk hi9 hk => ?_, fun i hi9 => ?_, fun i hi9 => ?_, ?_, ?_⟩ (fun j hj => hO j (by omega) (by omega) (by omega) (by omega))
  · by_cases x : i = pt
    · subst x
      rw [pk_un (by omega), pk_un (by omega), ho _ (by omega), ef1, pk_us, nup_s]
    · rw [hO _ (by omega) (by omega) (by omega) (by omega), nup_n x]; exact hq i hi9
  · unfold tkz
    by_cases x : i = pt
    · subst x
      rw [nup_s] at hk
      rw [if_pos (by omega), pk_un (by omega), pk_un (by omega), hi _ (by omega) (by omega), ho1 _ (by omega)]
      exact hz i (kk + 1) hi9 (by omega)
    · rw [nup_n x] at hk
      have := h1 i hi9
      rw [if_neg (by omega), hO _ (by omega) (by omega) (by omega) (by omega)]
      exact hz i kk hi9 hk
  · by_cases x : i = pt
    · subst x
      rw [pk_un (by omega), pk_us, ho _ (by omega), ho1 _ (by omega), hc i h5, pk_sub hcz, nup_s]
    · rw [hO _ (by omega) (by omega) (by omega) (by omega), nup_n x]; exact hc i hi9
  · by_cases x : i = pt
    · subst x
      rw [pk_us, ho _ (by omega), ho1 _ (by omega), hv i h5, nI_add, nup_s]
    · rw [hO _ (by omega) (by omega) (by omega) (by omega), nup_n x]; exact hv i hi9
  · rw [hO _ (by omega) (by omega) (by omega) (by omega)]; exact hp
  · rw [hO _ (by omega) (by omega) (by omega) (by omega)]; exact hg
end MS
abbrev KM : Type := Int32 → (Nat → Int32) → (Nat → Int32) → Int32 → (Nat → Int32) → Prop
def EndM (A : KA) (K : KM) (f0 g : Nat → Int32) (s : Int32) (e : Nat → Int32) : Prop := ∀ (q z cr sv : Nat → Nat) (pt gt dn : Nat) (f : Nat → Int32), A q z cr sv pt gt dn → SrvM q z cr sv pt gt f → KeepS f0 f → K (nI dn) f g s e
theorem m_serve_n {hh : Int64} {f0 g e : Nat → Int32} {s : Int32} (A : KA) (K : KM) (hE : EndM A K f0 g s e) (x1 : Int32) : ∀ (n : Nat) (q z cr sv : Nat → Nat) (pt gt rest dn m : Nat) (f : Nat → Int32), n < m → rest < 2 ^ 20 → dn + n < 2 ^ 20 → SrvM q z cr sv pt gt f → SrvI q z cr sv pt gt → Cap q sv pt → KeepS f0 f → Srv n q z cr sv pt gt rest dn A → wpl_X9_serve_29 hh K m x1 (nI rest) (nI dn) 0 f g s e := by
  intro n
  induction n with
  | zero => intro q z cr sv pt gt rest dn m f _ _ _ _ _ _ _ hs; exact hs.elim
  | succ n ih =>
    intro q z cr sv pt gt rest dn m f hm hr hdn hM hI hcap hk hs
    obtain ⟨m, rfl⟩ : ∃ k, m = k + 1 := ⟨m - 1, by omega⟩
    rw [wpl_X9_serve_29]
    have hbound : fb_sm q 16 ≤ 16 * 8 := fb_sm_bound (fun i hi => hI.1 i hi)
    have h5 := hI.2.2.2.2.1
    have h8 := hI.1 pt h5
    have h12 := hI.2.2.1 pt h5
    have hgt1 := hI.2.2.2.2.2.1
    obtain ⟨hq, hz, hc, hv, hp, hg⟩ := id hM
    have e1 : (228 : Int32) + nI pt = nI (228 + pt) := ix
    have e2 : (372 : Int32) + nI pt = nI (372 + pt) := ix
    have e4 : (244 : Int32) + 8 * nI pt = nI (244 + 8 * pt) := by rw [show (8 : Int32) = nI 8 from rfl, pk_mul]; exact ix
    have c1 : (nI (228 + pt)).toNatClampNeg = 228 + pt := nI_clamp (by omega)
    have c2 : (nI (372 + pt)).toNatClampNeg = 372 + pt := nI_clamp (by omega)
    have c4 : (nI (244 + 8 * pt)).toNatClampNeg = 244 + 8 * pt := nI_clamp (by omega)
    have v1 : vp_in (nI (228 + pt)) 404 := vp_in_nI (by omega) (by decide)
    have v2 : vp_in (nI (372 + pt)) 404 := vp_in_nI (by omega) (by decide)
    have v4 : vp_in (nI (244 + 8 * pt)) 404 := vp_in_nI (by omega) (by decide)
    refine ⟨fun y => absurd rfl y, fun _ => m_waiting hq ?_⟩
    rw [show (0 : Int32) = nI 0 from rfl, nI_leI (by omega) (by decide)]
    refine ⟨fun y => hE _ _ _ _ _ _ _ _ (hs.1 (by omega)) hM hk, fun y => ?_⟩
    have hs2 := hs.2 (by omega)
    rw [hp, hg, e1, e2, e4, c1, c2, c4]
    refine ⟨v4, v1, ?_⟩
    rw [hq pt h5, nI_leI (by omega) (by decide), nI_eq (by omega) (by decide), nI_eq (by omega) (by decide)]
    -- move on from a state f2 that stands for (cr2, gt2)
    have mv : ∀ (cr2 : Nat → Nat) (gt2 : Nat) (f2 : Nat → Int32), SrvM q z cr2 sv pt gt2 f2 → SrvI q z cr2 sv pt gt2 → KeepS f0 f2 → SrvV (Srv n) q z cr2 sv pt gt2 rest dn A → (q pt = 0 ∨ cr2 pt < z (8 * pt)) → wp_X9_moves f2 g s e hh (fun g9 => wpl_X9_serve_29 hh K m x1 (nI rest) (nI dn) 0 g9 g s e) := fun cr2 gt2 f2 hM2 hI2 hk2 hs3 hc3 =>
      m_moves hM2 hI2 (fun f' hM' hk' => ih _ _ _ _ _ _ rest dn m f' (by omega) hr (by omega) hM' (I_move hI2 hc3) hcap (hk2.tr hk') (hs3.1 hc3))
    -- take from a state f2
    have tk : ∀ (cr2 : Nat → Nat) (gt2 : Nat) (f2 : Nat → Int32), SrvM q z cr2 sv pt gt2 f2 → SrvI q z cr2 sv pt gt2 → KeepS f0 f2 → SrvV (Srv n) q z cr2 sv pt gt2 rest dn A → 0 < q pt → z (8 * pt) ≤ cr2 pt → z (8 * pt) ≤ rest → wp_X9_takes f2 g s e hh (nI pt) (fun r9 g9 => (vp_in (nI (228 + pt)) 404 ∧ ((¬ g9 (228 + pt) = 0 → wpl_X9_serve_29 hh K m x1 (nI rest - r9) (nI dn + 1) 0 g9 g s e) ∧ (g9 (228 + pt) = 0 → wp_X9_moves g9 g s e hh (fun g8 => wpl_X9_serve_29 hh K m x1 (nI rest - r9) (nI dn + 1) 0 g8 g s e))))) := fun cr2 gt2 f2 hM2 hI2 hk2 hs3 hq0 hcz hzr => by
      have hz9 := tk_pos hI.2.1 h5 hq0
      have hcp := hcap pt h5
      have hcap' := hcap.take (p2 := pt) h5 hq0 hz9.2
      have hI' := I_take (v := cr2 pt - z (8 * pt)) hI2 hq0 hcz (by omega) (Nat.le_refl _)
      have h9 := (hs3.2 hq0 hcz).2 hzr
      refine m_takes hM2 hI2 hq0 hcz (fun f' hM' hk' => ⟨v1, ?_⟩)
      have hf' := hM'.1 pt h5
      rw [nup_s] at hf'
      rw [hf', pk_sub hzr, nI_1, show (0 : Int32) = nI 0 from rfl, nI_eq (by omega) (by decide)]
      refine ⟨fun y2 => ?_, fun y2 => ?_⟩
      · exact ih _ _ _ _ pt gt2 (rest - z (8 * pt)) (dn + 1) m f' (by omega) (by omega) (by omega) hM' hI' hcap' (hk2.tr hk') (h9.2 (by omega))
      · have q1 : q pt = 1 := by omega
        have hz0 : nup q pt (q pt - 1) pt = 0 := by rw [nup_s]; omega
        refine m_moves hM' hI' (fun f'' hM'' hk'' => ?_)
        have hI'' := I_move hI' (Or.inl hz0)
        rw [mvc_last (m := 0) q1] at hM'' hI''
        exact ih _ _ _ _ _ _ (rest - z (8 * pt)) (dn + 1) m f'' (by omega) (by omega) (by omega) hM'' hI'' hcap' ((hk2.tr hk').tr hk'') (h9.1 q1)
    have fin : ∀ (cr2 : Nat → Nat) (gt2 : Nat) (f2 : Nat → Int32), SrvM q z cr2 sv pt gt2 f2 → KeepS f0 f2 → SrvV (Srv n) q z cr2 sv pt gt2 rest dn A → 0 < q pt → z (8 * pt) ≤ cr2 pt → rest < z (8 * pt) → wpl_X9_serve_29 hh K m x1 (nI rest) (nI dn) 1 f2 g s e := fun cr2 gt2 f2 hM2 hk2 hs3 hq0 hcz hzr => by
      obtain ⟨m, rfl⟩ : ∃ k, m = k + 1 := ⟨m - 1, by omega⟩
      rw [wpl_X9_serve_29]
      exact ⟨fun _ => hE _ _ _ _ _ _ _ _ ((hs3.2 hq0 hcz).1 hzr) hM2 hk2, fun x => absurd x one_ne⟩
    refine ⟨fun y2 => ?_, fun y2 => ?_⟩
    · have q0 : q pt = 0 := by omega
      rw [if_neg (by omega), if_neg (by omega)] at hs2
      refine ⟨v1, fun _ => mv cr gt f hM hI hk hs2 (Or.inl q0), fun x => absurd q0 x⟩
    · have q0 : 0 < q pt := by omega
      have hz0 := hz pt 0 h5 q0
      rw [Nat.add_zero, Nat.add_zero] at hz0
      have hz9 := tk_pos hI.2.1 h5 q0
      refine ⟨fun y3 => ?_, fun y3 => ?_⟩
      · rw [if_neg (by omega), if_neg (by omega)] at hs2
        refine ⟨v1, fun x => absurd x (by omega), fun _ => ⟨v2, ?_⟩⟩
        rw [hz0, hc pt h5, nI_leI (by omega) (by omega), nI_leI (by omega) (by omega)]
        exact ⟨fun x => ⟨fun x2 => tk cr gt f hM hI hk hs2 q0 x x2, fun x2 => fin cr gt f hM hk hs2 q0 x (by omega)⟩, fun x => mv cr gt f hM hI hk hs2 (Or.inr (by omega))⟩
      · have hg0 : 0 < q pt ∧ gt = 0 := ⟨q0, y3⟩
        have hI2 := I_grant hI
        rw [if_pos hg0, if_pos hg0] at hs2 hI2
        refine ⟨v2, v2, fun f28 e28 f29 e29 => ?_⟩
        rw [hc pt h5, show (4 : Int32) = nI 4 from rfl, nI_add] at e28
        have ho : ∀ j, j ≠ 372 + pt → j ≠ 7 → f29 j = f j := fun j a b => by rw [e29, pk_un b, e28, pk_un a]
        have hc29 : ∀ i, i < 16 → f29 (372 + i) = nI (nup cr pt (cr pt + 4) i) := fun i hi => by
          by_cases x : i = pt
          · subst x; rw [e29, pk_un (by omega), e28, pk_us, nup_s]
          · rw [ho _ (by omega) (by omega), nup_n x]; exact hc i hi
        have hM2 : SrvM q z (nup cr pt (cr pt + 4)) sv pt 1 f29 := ⟨fun i hi => by rw [ho _ (by omega) (by omega)]; exact hq i hi, fun i k hi hk9 => by have := hI.1 i hi; rw [ho _ (by omega) (by omega)]; exact hz i k hi hk9, hc29, fun i hi => by rw [ho _ (by omega) (by omega)]; exact hv i hi, by rw [ho _ (by omega) (by omega)]; exact hp, by rw [e29, pk_us]; rfl⟩
        have hk2 : KeepS f0 f29 := hk.tr (fun j hj => ho j (by omega) (by omega))
        have hm12 := hI2.2.2.1 pt h5
        rw [ho (228 + pt) (by omega) (by omega), hq pt h5, nI_eq (by omega) (by decide), hz0, hc29 pt h5]
        refine ⟨v1, fun x => absurd x (by omega), fun _ => ⟨v2, ?_⟩⟩
        rw [nI_leI (by omega) (by omega), nI_leI (by omega) (by omega)]
        exact ⟨fun x => ⟨fun x2 => tk _ 1 f29 hM2 hI2 hk2 hs2 q0 x x2, fun x2 => fin _ 1 f29 hM2 hk2 hs2 q0 x (by omega)⟩, fun x => mv _ 1 f29 hM2 hI2 hk2 hs2 (Or.inr (by omega))⟩
