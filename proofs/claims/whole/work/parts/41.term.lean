/-! pure facts: serving ends -/
def qs (q z : Nat → Nat) (i : Nat) : Nat := fb_sm (fun k => z (8 * i + k)) (q i)
def tot (q z sv : Nat → Nat) : Nat := fb_sm (fun i => sv i + qs q z i) 16
def phi (q z cr : Nat → Nat) (i : Nat) : Nat := if 0 < q i then qs q z i + 12 - cr i else 0
def mxf (f : Nat → Nat) : Nat → Nat
  | 0 => 0
  | n + 1 => if mxf f n ≤ f n then f n else mxf f n
theorem mxf_le {f : Nat → Nat} {b : Nat} : ∀ {n : Nat}, (∀ i, i < n → f i ≤ b) → mxf f n ≤ b
  | 0, _ => Nat.zero_le _
  | n + 1, h => by
    show (if mxf f n ≤ f n then f n else mxf f n) ≤ b
    split
    · exact h n (by omega)
    · exact mxf_le (fun i hi => h i (by omega))
theorem le_mxf {f : Nat → Nat} {i : Nat} : ∀ {n : Nat}, i < n → f i ≤ mxf f n
  | 0, h => by omega
  | n + 1, h => by
    show f i ≤ (if mxf f n ≤ f n then f n else mxf f n)
    rcases Nat.lt_or_ge i n with q | q
    · have := le_mxf (f := f) q
      split <;> omega
    · have : i = n := by omega
      subst this
      split <;> omega
def dst (q : Nat → Nat) (pt i : Nat) : Nat := if 0 < q i then (i + 16 - pt) % 16 else 0
def mu (q z cr : Nat → Nat) (pt gt : Nat) : Nat := 4 * fb_sm (phi q z cr) 16 + 16 * gt + mxf (dst q pt) 16 + fb_sm q 16
theorem dst_le (q : Nat → Nat) (pt : Nat) : mxf (dst q pt) 16 ≤ 15 := mxf_le (fun i _ => by unfold dst; split <;> omega)
theorem sm_at {f g : Nat → Nat} {p : Nat} (hp : p < 16) (h : ∀ i, i < 16 → i ≠ p → g i = f i) : fb_sm g 16 + f p = fb_sm f 16 + g p := by
  have e : fb_sm g 16 = fb_sm (nup f p (g p)) 16 := fb_sm_cong (fun i hi => by
    by_cases x : i = p
    · subst x; rw [nup_s]
    · rw [nup_n x]; exact h i hi x)
  rw [e]
  exact sm_nup f (g p) hp
/-- a queue that is shorter by its first -/
theorem qs_take {q z : Nat → Nat} {pt : Nat} (hq : 0 < q pt) : qs (nup q pt (q pt - 1)) (tkz z pt (q pt - 1)) pt + z (8 * pt) = qs q z pt := by
  unfold qs
  rw [nup_s]
  obtain ⟨m, hm⟩ : ∃ m, q pt = m + 1 := ⟨q pt - 1, by omega⟩
  rw [hm, Nat.add_sub_cancel, Nat.add_comm m 1, fb_sm_split]
  have e : fb_sm (fun k => tkz z pt m (8 * pt + k)) m = fb_sm (fun k => z (8 * pt + (1 + k))) m := fb_sm_cong (fun k hk => by
    unfold tkz
    rw [if_pos (by omega), show 8 * pt + k + 1 = 8 * pt + (1 + k) by omega])
  rw [e]
  have e1 : fb_sm (fun k => z (8 * pt + k)) 1 = z (8 * pt) := by
    rw [fb_sm_succ]
    show 0 + z (8 * pt + 0) = _
    rw [Nat.add_zero, Nat.zero_add]
  rw [e1]; omega
theorem qs_other {q z : Nat → Nat} {pt i : Nat} (h1 : ∀ i, i < 16 → q i ≤ 8) (hp : pt < 16) (hi : i < 16) (hn : i ≠ pt) : qs (nup q pt (q pt - 1)) (tkz z pt (q pt - 1)) i = qs q z i := by
  unfold qs
  rw [nup_n hn]
  refine fb_sm_cong (fun k hk => ?_)
  unfold tkz
  have := h1 i hi
  have := h1 pt hp
  rw [if_neg (by omega)]
theorem tot_take {q z sv : Nat → Nat} {pt : Nat} (h1 : ∀ i, i < 16 → q i ≤ 8) (hp : pt < 16) (hq : 0 < q pt) : tot (nup q pt (q pt - 1)) (tkz z pt (q pt - 1)) (nup sv pt (sv pt + z (8 * pt))) = tot q z sv := by
  unfold tot
  have e := sm_at (f := fun i => sv i + qs q z i) (g := fun i => nup sv pt (sv pt + z (8 * pt)) i + qs (nup q pt (q pt - 1)) (tkz z pt (q pt - 1)) i) hp (fun i hi hn => by
    show nup sv pt (sv pt + z (8 * pt)) i + qs (nup q pt (q pt - 1)) (tkz z pt (q pt - 1)) i = sv i + qs q z i
    rw [nup_n hn, qs_other h1 hp hi hn])
  have e2 := qs_take (z := z) hq
  simp only [nup_s] at e
  omega
def Fin9 (T : Nat) : KA := fun q z cr sv pt gt _ => SrvI q z cr sv pt gt ∧ tot q z sv ≤ T
theorem sv_le_tot {q z sv : Nat → Nat} {i : Nat} (hi : i < 16) : sv i ≤ tot q z sv := by
  have := fb_sm_part (fun i => sv i + qs q z i) hi
  unfold tot
  omega
theorem dst_move {q : Nat → Nat} {pt : Nat} (hp : pt < 16) (h0 : q pt = 0) (hw : 0 < fb_sm q 16) : mxf (dst q ((pt + 1) % 16)) 16 + 1 ≤ mxf (dst q pt) 16 := by
  have key : ∀ i, i < 16 → 0 < q i → dst q ((pt + 1) % 16) i + 1 ≤ mxf (dst q pt) 16 := fun i hi hq => by
    have h1 := le_mxf (f := dst q pt) hi
    have hne : i ≠ pt := fun e => by subst e; omega
    unfold dst at h1 ⊢
    rw [if_pos hq] at h1 ⊢
    omega
  have ex : ∃ i, i < 16 ∧ 0 < q i := by
    refine Classical.byContradiction (fun hn => ?_)
    have : fb_sm q 16 ≤ 16 * 0 := fb_sm_bound (fun i hi => Nat.le_of_not_lt (fun x => hn ⟨i, hi, x⟩))
    omega
  obtain ⟨i, hi, hq⟩ := ex
  have h1 := key i hi hq
  have : mxf (dst q ((pt + 1) % 16)) 16 ≤ mxf (dst q pt) 16 - 1 := mxf_le (fun j hj => by
    by_cases c : 0 < q j
    · have := key j hj c; omega
    · unfold dst; rw [if_neg c]; omega)
  omega
theorem Srv_ends (T : Nat) (hT : T < 2 ^ 20) : ∀ (N : Nat) (q z cr sv : Nat → Nat) (pt gt rest dn : Nat), SrvI q z cr sv pt gt → tot q z sv ≤ T → mu q z cr pt gt ≤ N → Srv (N + 1) q z cr sv pt gt rest dn (Fin9 T) := by
  intro N
  induction N with
  | zero =>
    intro q z cr sv pt gt rest dn hI ht hm
    refine ⟨fun _ => ⟨hI, ht⟩, fun hw => ?_⟩
    unfold mu at hm
    omega
  | succ N ih =>
    intro q z cr sv pt gt rest dn hI ht hm
    refine ⟨fun _ => ⟨hI, ht⟩, fun hw => ?_⟩
    have hI2 := I_grant hI
    obtain ⟨h1, h2, h3, h4, h5, h6, h7⟩ := id hI
    have hd := dst_le q pt
    have hd2 := dst_le q ((pt + 1) % 16)
    unfold mu at hm
    -- the grant
    have hphi : fb_sm (phi q z (if 0 < q pt ∧ gt = 0 then nup cr pt (cr pt + 4) else cr)) 16 + (if 0 < q pt ∧ gt = 0 then 4 else 0) = fb_sm (phi q z cr) 16 := by
      by_cases c : 0 < q pt ∧ gt = 0
      · rw [if_pos c, if_pos c]
        have e := sm_at (f := phi q z cr) (g := phi q z (nup cr pt (cr pt + 4))) h5 (fun i hi hn => by unfold phi; rw [nup_n hn])
        have h8 := h4 pt h5 (Or.inr c.2)
        have p1 : phi q z cr pt = qs q z pt + 12 - cr pt := if_pos c.1
        have p2 : phi q z (nup cr pt (cr pt + 4)) pt = qs q z pt + 12 - (cr pt + 4) := by
          unfold phi; rw [if_pos c.1, nup_s]
        omega
      · rw [if_neg c, if_neg c]; rfl
    have hgt2 : 0 < q pt → (if 0 < q pt ∧ gt = 0 then 1 else gt) = 1 := fun hq => by
      by_cases c : gt = 0
      · rw [if_pos ⟨hq, c⟩]
      · rw [if_neg (fun x => c x.2)]; omega
    generalize hcr : (if 0 < q pt ∧ gt = 0 then nup cr pt (cr pt + 4) else cr) = cr2 at hI2 hphi ⊢
    generalize hg2 : (if 0 < q pt ∧ gt = 0 then 1 else gt) = gt2 at hI2 hgt2 ⊢
    have hcost : 0 < q pt → 4 * fb_sm (phi q z cr2) 16 + 16 ≤ 4 * fb_sm (phi q z cr) 16 + 16 * gt := fun hq => by
      by_cases c : gt = 0
      · rw [if_pos ⟨hq, c⟩] at hphi; omega
      · have : gt = 1 := by omega
        rw [if_neg (fun x => c x.2)] at hphi; omega
    have hle : fb_sm (phi q z cr2) 16 ≤ fb_sm (phi q z cr) 16 := by omega
    refine ⟨fun hc => ?_, fun hq hz => ⟨fun _ => ⟨hI2, ht⟩, fun hzr => ⟨fun hq1 => ?_, fun hq1 => ?_⟩⟩⟩
    · refine ih _ _ _ _ _ _ rest dn (I_move hI2 hc) ht ?_
      unfold mu
      by_cases c : q pt = 0
      · have e : fb_sm (phi q z (mvc cr2 q pt)) 16 = fb_sm (phi q z cr2) 16 := fb_sm_cong (fun i hi => by
          unfold phi mvc
          rw [if_pos c]
          by_cases x : i = pt
          · subst x; rw [if_neg (by omega), if_neg (by omega)]
          · rw [nup_n x])
        have e2 := dst_move h5 c hw
        omega
      · have e : mvc cr2 q pt = cr2 := by unfold mvc; rw [if_neg c]
        rw [e]
        have := hcost (by omega)
        omega
    · have hz9 := tk_pos h2 h5 hq
      have hsv := sv_le_tot (q := q) (z := z) (sv := sv) h5
      have hI3 := I_take (v := 0) hI2 hq hz (by omega) (Nat.zero_le _)
      have hz0 : nup q pt (q pt - 1) pt = 0 := by rw [nup_s]; omega
      have hI4 := I_last hI3 hz0 nup_s
      refine ih _ _ _ _ _ _ _ _ hI4 (by rw [tot_take h1 h5 hq]; exact ht) ?_
      unfold mu
      have e := sm_at (f := phi q z cr2) (g := phi (nup q pt (q pt - 1)) (tkz z pt (q pt - 1)) (nup cr2 pt 0)) h5 (fun i hi hn => by unfold phi; rw [nup_n hn, nup_n hn, qs_other h1 h5 hi hn])
      have p2 : phi (nup q pt (q pt - 1)) (tkz z pt (q pt - 1)) (nup cr2 pt 0) pt = 0 := by unfold phi; rw [if_neg (by omega)]
      have e3 := sm_nup q (q pt - 1) (n := 16) h5
      have := hcost hq
      have := dst_le (nup q pt (q pt - 1)) ((pt + 1) % 16)
      omega
    · have hz9 := tk_pos h2 h5 hq
      have hsv := sv_le_tot (q := q) (z := z) (sv := sv) h5
      have hI3 := I_take (v := cr2 pt - z (8 * pt)) hI2 hq hz (by omega) (Nat.le_refl _)
      refine ih _ _ _ _ _ _ _ _ hI3 (by rw [tot_take h1 h5 hq]; exact ht) ?_
      unfold mu
      have e := sm_at (f := phi q z cr2) (g := phi (nup q pt (q pt - 1)) (tkz z pt (q pt - 1)) (nup cr2 pt (cr2 pt - z (8 * pt)))) h5 (fun i hi hn => by unfold phi; rw [nup_n hn, nup_n hn, qs_other h1 h5 hi hn])
      have hqt := qs_take (z := z) hq
      have hc12 := hI2.2.2.1 pt h5
      have p1 : phi q z cr2 pt = qs q z pt + 12 - cr2 pt := if_pos hq
      have p2 : phi (nup q pt (q pt - 1)) (tkz z pt (q pt - 1)) (nup cr2 pt (cr2 pt - z (8 * pt))) pt = qs (nup q pt (q pt - 1)) (tkz z pt (q pt - 1)) pt + 12 - (cr2 pt - z (8 * pt)) := by
        unfold phi; rw [nup_s, nup_s, if_pos (by omega)]
      have e3 := sm_nup q (q pt - 1) (n := 16) h5
      have e4 : mxf (dst (nup q pt (q pt - 1)) pt) 16 ≤ mxf (dst q pt) 16 := mxf_le (fun i hi => by
        have := le_mxf (f := dst q pt) hi
        unfold dst at this ⊢
        by_cases x : i = pt
        · subst x
          rw [nup_s]
          split <;> omega
        · rw [nup_n x]; exact this)
      have hgg := hgt2 hq
      have := hcost hq
      omega
theorem mu_le {q z cr sv : Nat → Nat} {pt gt : Nat} (hI : SrvI q z cr sv pt gt) : mu q z cr pt gt ≤ 9000 := by
  obtain ⟨h1, h2, h3, h4, h5, h6, h7⟩ := hI
  unfold mu
  have a1 : fb_sm (phi q z cr) 16 ≤ 16 * 84 := fb_sm_bound (fun i hi => by
    unfold phi
    split
    · have : qs q z i ≤ q i * 9 := fb_sm_bound (fun k hk => (h2 i k hi hk).2)
      have := h1 i hi
      omega
    · omega)
  have a2 := dst_le q pt
  have a3 : fb_sm q 16 ≤ 16 * 8 := fb_sm_bound h1
  omega
theorem Srv_run {q z cr sv : Nat → Nat} {pt gt T : Nat} (rest : Nat) (hI : SrvI q z cr sv pt gt) (ht : tot q z sv ≤ T) (hT : T < 2 ^ 20) : Srv 9001 q z cr sv pt gt rest 0 (Fin9 T) := Srv_ends T hT 9000 q z cr sv pt gt rest 0 hI ht (mu_le hI)
theorem Cap_of {q z cr sv : Nat → Nat} {pt gt T : Nat} (hI : SrvI q z cr sv pt gt) (ht : tot q z sv ≤ T) (hT : T < 2 ^ 20) : Cap q sv pt := fun i hi => by
  have := sv_le_tot (q := q) (z := z) (sv := sv) hi
  have := hI.1 i hi
  omega
