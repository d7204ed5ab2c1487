/-! pure facts: service, the abstract run and the class -/
def SrvC (q z cr sv : Nat → Nat) (pt gt : Nat) (a b c d : Nat → Int32) (w p g : Int32) : Prop :=
  (∀ i, i < 16 → b i = nI (q i)) ∧ (∀ i k, i < 16 → k < q i → a (8 * i + k) = nI (z (8 * i + k))) ∧ (∀ i, i < 16 → c i = nI (cr i)) ∧ (∀ i, i < 16 → d i = nI (sv i)) ∧ w = nI (fb_sm q 16) ∧ p = nI pt ∧ g = nI gt
def SrvI (q z cr sv : Nat → Nat) (pt gt : Nat) : Prop :=
  (∀ i, i < 16 → q i ≤ 8) ∧ (∀ i k, i < 16 → k < q i → 1 ≤ z (8 * i + k) ∧ z (8 * i + k) ≤ 9) ∧ (∀ i, i < 16 → cr i ≤ 12) ∧ (∀ i, i < 16 → (i ≠ pt ∨ gt = 0) → cr i ≤ 8) ∧ pt < 16 ∧ gt ≤ 1 ∧ (∀ i, i < 16 → sv i < 2 ^ 28)
def nup (f : Nat → Nat) (i v : Nat) : Nat → Nat := fun j => if j = i then v else f j
theorem nup_s {f : Nat → Nat} {i v : Nat} : nup f i v i = v := if_pos rfl
theorem nup_n {f : Nat → Nat} {i v j : Nat} (h : j ≠ i) : nup f i v j = f j := if_neg h
theorem sm_nup (f : Nat → Nat) (v : Nat) {i n : Nat} (h : i < n) : fb_sm (nup f i v) n + f i = fb_sm f n + v := fb_sm_upd f v h
theorem arr_nup {a : Nat → Int32} {f : Nat → Nat} {i v : Nat} (h : ∀ j, j < 16 → a j = nI (f j)) : ∀ j, j < 16 → upd a i (nI v) j = nI (nup f i v j) := fun j hj => by
  by_cases e : j = i
  · subst e; rw [pk_us, nup_s]
  · rw [pk_un e, nup_n e]; exact h j hj
/-- the first request of client p goes -/
def tkz (z : Nat → Nat) (p m : Nat) : Nat → Nat := fun j => if 8 * p ≤ j ∧ j < 8 * p + m then z (j + 1) else z j
def mvc (cr q : Nat → Nat) (p : Nat) : Nat → Nat := if q p = 0 then nup cr p 0 else cr
abbrev KA : Type := (Nat → Nat) → (Nat → Nat) → (Nat → Nat) → (Nat → Nat) → Nat → Nat → Nat → Prop
abbrev SA : Type := (Nat → Nat) → (Nat → Nat) → (Nat → Nat) → (Nat → Nat) → Nat → Nat → Nat → Nat → KA → Prop
/-- behind the grant: move on, end, or take -/
def SrvV (S : SA) : SA := fun q z cr sv pt gt rest dn K =>
  ((q pt = 0 ∨ cr pt < z (8 * pt)) → S q z (mvc cr q pt) sv ((pt + 1) % 16) 0 rest dn K) ∧
  (0 < q pt → z (8 * pt) ≤ cr pt → (rest < z (8 * pt) → K q z cr sv pt gt dn) ∧ (z (8 * pt) ≤ rest →
    (q pt = 1 → S (nup q pt (q pt - 1)) (tkz z pt (q pt - 1)) (nup cr pt 0) (nup sv pt (sv pt + z (8 * pt))) ((pt + 1) % 16) 0 (rest - z (8 * pt)) (dn + 1) K) ∧
    (1 < q pt → S (nup q pt (q pt - 1)) (tkz z pt (q pt - 1)) (nup cr pt (cr pt - z (8 * pt))) (nup sv pt (sv pt + z (8 * pt))) pt gt (rest - z (8 * pt)) (dn + 1) K)))
def Srv : Nat → SA
  | 0 => fun _ _ _ _ _ _ _ _ _ => False
  | n + 1 => fun q z cr sv pt gt rest dn K => (fb_sm q 16 = 0 → K q z cr sv pt gt dn) ∧ (0 < fb_sm q 16 → SrvV (Srv n) q z (if 0 < q pt ∧ gt = 0 then nup cr pt (cr pt + 4) else cr) sv pt (if 0 < q pt ∧ gt = 0 then 1 else gt) rest dn K)
theorem I_grant {q z cr sv : Nat → Nat} {pt gt : Nat} (h : SrvI q z cr sv pt gt) : SrvI q z (if 0 < q pt ∧ gt = 0 then nup cr pt (cr pt + 4) else cr) sv pt (if 0 < q pt ∧ gt = 0 then 1 else gt) := by
  obtain ⟨h1, h2, h3, h4, h5, h6, h7⟩ := h
  by_cases c : 0 < q pt ∧ gt = 0
  · rw [if_pos c, if_pos c]
    refine ⟨h1, h2, fun i hi => ?_, fun i hi hn => ?_, h5, Nat.le_refl _, h7⟩
    · by_cases e : i = pt
      · subst e; rw [nup_s]; have := h4 i hi (Or.inr c.2); omega
      · rw [nup_n e]; exact h3 i hi
    · have e : i ≠ pt := by rcases hn with e | e
                            · exact e
                            · omega
      rw [nup_n e]; exact h4 i hi (Or.inl e)
  · rw [if_neg c, if_neg c]
    exact ⟨h1, h2, h3, h4, h5, h6, h7⟩
theorem I_move {q z cr sv : Nat → Nat} {pt gt : Nat} (h : SrvI q z cr sv pt gt) (hm : q pt = 0 ∨ cr pt < z (8 * pt)) : SrvI q z (mvc cr q pt) sv ((pt + 1) % 16) 0 := by
  obtain ⟨h1, h2, h3, h4, h5, h6, h7⟩ := h
  have hb : ∀ i, i < 16 → mvc cr q pt i ≤ 8 := fun i hi => by
    unfold mvc
    by_cases c : q pt = 0
    · rw [if_pos c]
      by_cases e : i = pt
      · subst e; rw [nup_s]; omega
      · rw [nup_n e]; exact h4 i hi (Or.inl e)
    · rw [if_neg c]
      by_cases e : i = pt
      · subst e
        have := h2 i 0 hi (by omega)
        rw [Nat.add_zero] at this
        omega
      · exact h4 i hi (Or.inl e)
  exact ⟨h1, h2, fun i hi => by have := hb i hi; omega, fun i hi _ => hb i hi, by omega, by omega, h7⟩
theorem tk_pos {q z : Nat → Nat} {pt : Nat} (h2 : ∀ i k, i < 16 → k < q i → 1 ≤ z (8 * i + k) ∧ z (8 * i + k) ≤ 9) (h5 : pt < 16) (hq : 0 < q pt) : 1 ≤ z (8 * pt) ∧ z (8 * pt) ≤ 9 := by
  have := h2 pt 0 h5 hq
  rw [Nat.add_zero] at this
  exact this
theorem I_take {q z cr sv : Nat → Nat} {pt gt : Nat} (h : SrvI q z cr sv pt gt) (hq : 0 < q pt) (hc : z (8 * pt) ≤ cr pt) (hsv : sv pt + 9 < 2 ^ 28) {v : Nat} (hv : v ≤ cr pt - z (8 * pt)) : SrvI (nup q pt (q pt - 1)) (tkz z pt (q pt - 1)) (nup cr pt v) (nup sv pt (sv pt + z (8 * pt))) pt gt := by
  obtain ⟨h1, h2, h3, h4, h5, h6, h7⟩ := h
  have hz := tk_pos h2 h5 hq
  refine ⟨fun i hi => ?_, fun i k hi hk => ?_, fun i hi => ?_, fun i hi hn => ?_, h5, h6, fun i hi => ?_⟩
  · by_cases e : i = pt
    · subst e; rw [nup_s]; have := h1 i hi; omega
    · rw [nup_n e]; exact h1 i hi
  · unfold tkz
    by_cases e : i = pt
    · subst e
      rw [nup_s] at hk
      rw [if_pos (by omega)]
      exact h2 i (k + 1) hi (by omega)
    · rw [nup_n e] at hk
      have := h1 i hi
      have := h1 pt h5
      rw [if_neg (by omega)]
      exact h2 i k hi hk
  · by_cases e : i = pt
    · subst e; rw [nup_s]; have := h3 i hi; omega
    · rw [nup_n e]; exact h3 i hi
  · by_cases e : i = pt
    · subst e
      rw [nup_s]
      have := h4 i hi hn
      omega
    · rw [nup_n e]; exact h4 i hi hn
  · by_cases e : i = pt
    · subst e; rw [nup_s]; omega
    · rw [nup_n e]; exact h7 i hi
theorem I_last {q z cr sv : Nat → Nat} {pt gt : Nat} (h : SrvI q z cr sv pt gt) (h1 : q pt = 0) (h0 : cr pt = 0) : SrvI q z cr sv ((pt + 1) % 16) 0 := by
  have := I_move h (Or.inl h1)
  unfold mvc at this
  rw [if_pos h1] at this
  have e : nup cr pt 0 = cr := by
    funext j
    by_cases e : j = pt
    · subst e; rw [nup_s, h0]
    · rw [nup_n e]
  rw [e] at this
  exact this
section XS
variable {q z cr sv : Nat → Nat} {pt gt : Nat} {a b c d : Nat → Int32} {w p g : Int32}
theorem x_grant (h : SrvC q z cr sv pt gt a b c d w p g) (hI : SrvI q z cr sv pt gt) {K : (Nat → Int32) → Int32 → Prop} (k : ∀ c' g', SrvC q z (if 0 < q pt ∧ gt = 0 then nup cr pt (cr pt + 4) else cr) sv pt (if 0 < q pt ∧ gt = 0 then 1 else gt) a b c' d w p g' → K c' g') : wp_X5_grant a b c d w p g K := by
  obtain ⟨hb, ha, hc, hd, hw, hp, hg⟩ := h
  obtain ⟨h1, h2, h3, h4, h5, h6, h7⟩ := hI
  have := h1 pt h5
  rw [wp_X5_grant, hp, nI_clamp (by omega), hb pt h5]
  have v : vp_in (nI pt) 16 := vp_in_nI h5 (by decide)
  refine ⟨v, fun y => ?_, fun y => ⟨fun x => ?_, fun x => ⟨v, v, fun f3 e3 => ?_⟩⟩⟩
  · rw [show (0 : Int32) = nI 0 from rfl, nI_leI (by omega) (by decide)] at y
    refine k c g ?_
    rw [if_neg (by omega), if_neg (by omega)]
    exact ⟨hb, ha, hc, hd, hw, hp, hg⟩
  · rw [hg] at x
    have gt0 : gt ≠ 0 := fun e => x (by rw [e]; rfl)
    refine k c g ?_
    rw [if_neg (by omega), if_neg (by omega)]
    exact ⟨hb, ha, hc, hd, hw, hp, hg⟩
  · rw [show (0 : Int32) = nI 0 from rfl, nI_leI (by omega) (by decide)] at y
    rw [hg, show (0 : Int32) = nI 0 from rfl, nI_eq (by omega) (by decide)] at x
    refine k f3 1 ?_
    rw [if_pos (by omega), if_pos (by omega)]
    rw [hc pt h5, show (4 : Int32) = nI 4 from rfl, nI_add] at e3
    subst e3
    exact ⟨hb, ha, arr_nup hc, hd, hw, hp, rfl⟩
theorem x_moveOn (h : SrvC q z cr sv pt gt a b c d w p g) (hI : SrvI q z cr sv pt gt) {K : (Nat → Int32) → Int32 → Int32 → Prop} (k : ∀ c', SrvC q z (mvc cr q pt) sv ((pt + 1) % 16) 0 a b c' d w (nI ((pt + 1) % 16)) 0 → K c' (nI ((pt + 1) % 16)) 0) : wp_X5_moveOn a b c d w p g K := by
  obtain ⟨hb, ha, hc, hd, hw, hp, hg⟩ := h
  obtain ⟨h1, h2, h3, h4, h5, h6, h7⟩ := hI
  have := h1 pt h5
  have ej : jrem (nI pt + 1) 16 = nI ((pt + 1) % 16) := by
    rw [nI_1, show (16 : Int32) = nI 16 from rfl, jrem_nI (by omega) (by decide) (by decide)]
  rw [wp_X5_moveOn, hp, nI_clamp (by omega), hb pt h5, ej]
  have v : vp_in (nI pt) 16 := vp_in_nI h5 (by decide)
  rw [show (0 : Int32) = nI 0 from rfl, nI_eq (by omega) (by decide)]
  unfold mvc at k
  refine ⟨v, fun y => ?_, fun y => ⟨v, fun f2 e2 => ?_⟩⟩
  · rw [if_neg y] at k
    exact k c ⟨hb, ha, hc, hd, hw, rfl, rfl⟩
  · rw [if_pos y] at k
    subst e2
    exact k _ ⟨hb, ha, arr_nup hc, hd, hw, rfl, rfl⟩
theorem x_removeFirst_loop {m : Nat} (hm : m ≤ 7) (h5 : pt < 16) {x1 : Int32} {a0 : Nat → Int32} {K : (Nat → Int32) → (Nat → Int32) → (Nat → Int32) → (Nat → Int32) → Int32 → Prop} (hb : b pt = nI m) (k : ∀ a', (∀ j, ¬ (8 * pt ≤ j ∧ j < 8 * pt + m) → a' j = a0 j) → (∀ j, 8 * pt ≤ j → j < 8 * pt + m → a' j = a0 (j + 1)) → K a' b (upd c pt (c pt - x1)) (upd d pt (d pt + x1)) (w - 1)) : ∀ (n i : Nat) (a : Nat → Int32), i + n = m + 1 → i ≤ m → (∀ j, ¬ (8 * pt ≤ j ∧ j < 8 * pt + i) → a j = a0 j) → (∀ j, 8 * pt ≤ j → j < 8 * pt + i → a j = a0 (j + 1)) → wpl_X5_removeFirst_23 (nI pt) g K n x1 (nI (8 * pt)) (nI i) a b c d w := by
  have v : vp_in (nI pt) 16 := vp_in_nI h5 (by decide)
  intro n
  induction n with
  | zero => intro i a h1 h2; omega
  | succ n ih =>
    intro i a h1 h2 ho hi
    rw [wpl_X5_removeFirst_23, nI_clamp (by omega), hb]
    refine ⟨v, fun y => ?_, fun y => ?_⟩
    · rw [nI_leI (by omega) (by omega)] at y
      have ie : i = m := by omega
      subst ie
      refine ⟨v, v, fun f3 e3 => ⟨v, v, fun f4 e4 => ?_⟩⟩
      subst e3; subst e4
      exact k a ho hi
    · rw [nI_leI (by omega) (by omega)] at y
      rw [nI_add, nI_1, nI_1]
      refine ⟨vp_in_nI (by omega) (by decide), vp_in_nI (by omega) (by decide), fun f5 e5 => ?_⟩
      rw [nI_clamp (by omega), nI_clamp (by omega)] at e5
      subst e5
      refine ih (i + 1) _ (by omega) (by omega) (fun j hj => ?_) (fun j hj hn => ?_)
      · rw [pk_un (fun e => hj (by omega))]
        exact ho j (fun e => hj (by omega))
      · by_cases e : j = 8 * pt + i
        · subst e
          rw [pk_us]
          exact ho _ (by omega)
        · rw [pk_un e]
          exact hi j hj (by omega)
theorem x_removeFirst (h : SrvC q z cr sv pt gt a b c d w p g) (hI : SrvI q z cr sv pt gt) (hq : 0 < q pt) (hcz : z (8 * pt) ≤ cr pt) {K : (Nat → Int32) → (Nat → Int32) → (Nat → Int32) → (Nat → Int32) → Int32 → Prop} (k : ∀ a' b' c' d' w', SrvC (nup q pt (q pt - 1)) (tkz z pt (q pt - 1)) (nup cr pt (cr pt - z (8 * pt))) (nup sv pt (sv pt + z (8 * pt))) pt gt a' b' c' d' w' p g → K a' b' c' d' w') : wp_X5_removeFirst a b c d w p g (nI (z (8 * pt))) K := by
  obtain ⟨hb, ha, hc, hd, hw, hp, hg⟩ := h
  obtain ⟨h1, h2, h3, h4, h5, h6, h7⟩ := hI
  have h8 := h1 pt h5
  have v : vp_in (nI pt) 16 := vp_in_nI h5 (by decide)
  rw [wp_X5_removeFirst]
  rw [hp] at k ⊢
  rw [nI_clamp (by omega), hb pt h5]
  refine ⟨v, v, fun f1 e1 => ?_⟩
  rw [show nI (q pt) - 1 = nI (q pt - 1) from pk_sub (a := q pt) (b := 1) (by omega)] at e1
  have e8 : nI pt * 8 = nI (8 * pt) := by rw [show (8 : Int32) = nI 8 from rfl, pk_mul, Nat.mul_comm]
  rw [e8]
  have hf1 : ∀ i, i < 16 → f1 i = nI (nup q pt (q pt - 1) i) := by rw [e1]; exact arr_nup hb
  refine ⟨q pt - 1 + 1, x_removeFirst_loop (m := q pt - 1) (by omega) h5 (by rw [e1, pk_us]) (fun a' ho hi => ?_) _ 0 a (by omega) (by omega) (fun _ _ => rfl) (fun j hj hn => by omega)⟩
  refine k a' f1 _ _ _ ⟨hf1, fun i kk hi9 hk => ?_, ?_, ?_, ?_, rfl, hg⟩
  · unfold tkz
    by_cases e : i = pt
    · subst e
      rw [nup_s] at hk
      rw [if_pos (by omega), hi _ (by omega) (by omega)]
      exact ha i (kk + 1) hi9 (by omega)
    · rw [nup_n e] at hk
      have := h1 i hi9
      rw [if_neg (by omega), ho _ (by omega)]
      exact ha i kk hi9 hk
  · rw [hc pt h5, pk_sub hcz]; exact arr_nup hc
  · rw [hd pt h5, nI_add]; exact arr_nup hd
  · have e := sm_nup q (q pt - 1) (n := 16) h5
    rw [hw]
    have e2 : fb_sm (nup q pt (q pt - 1)) 16 = fb_sm q 16 - 1 := by omega
    rw [e2]
    exact pk_sub (a := fb_sm q 16) (b := 1) (by omega)
end XS
