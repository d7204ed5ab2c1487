/-! pure facts: cookies, marks, sizes, solutions -/
def ageN (ep c : Nat) : Nat := (ep % 32 + 32 - c / 32768) % 32
def stepN (x v : Nat) : Nat := (x * 16807 + v + 1) % 65521
def markN (key place st op : Nat) : Nat := stepN (stepN (stepN (stepN key (place / 8)) (place % 8)) st) op % 4096
def segN (i : Nat) : Nat := [64, 128, 256, 536, 1024, 1360, 1440, 1460].getD i 0
def optN (c : Nat) : Nat := c / 4096 % 8
theorem fm_neg : ∀ k : Fin 32, 0 < k.val → ¬ (0 ≤ ((0 - nI k.val) ^^^ 32)) ∧ ¬ jrem (0 - nI k.val) 32 = 0 ∧ jrem (0 - nI k.val) 32 + 32 = nI (32 - k.val) := by decide
theorem sub_self_add (x y : Int32) : x - (x + y) = 0 - y := by grind
theorem x_floorModSub {a b : Nat} {K : Int32 → Prop} (ha : a < 2 ^ 31) (hb : b < 32) (k : K (nI ((a % 32 + 32 - b) % 32))) : wp_J9_floorMod_7cf53 (nI a - nI b) 32 K := by
  by_cases h : b ≤ a
  · rw [pk_sub h]
    refine x_floorMod (d := 32) (by omega) (by decide) (by decide) ?_
    have e : (a - b) % 32 = (a % 32 + 32 - b) % 32 := by omega
    rw [e]; exact k
  · obtain ⟨c, hc⟩ : ∃ c, b = a + c := ⟨b - a, by omega⟩
    have e : nI a - nI b = 0 - nI c := by
      rw [hc, ← nI_add]
      exact sub_self_add _ _
    rw [e, wp_J9_floorMod_7cf53]
    obtain ⟨h1, h2, h3⟩ := fm_neg ⟨c, by omega⟩ (by show 0 < c; omega)
    have h1 : ¬ (0 ≤ ((0 - nI c) ^^^ 32)) := h1
    have h2 : ¬ jrem (0 - nI c) 32 = 0 := h2
    have h3 : jrem (0 - nI c) 32 + 32 = nI (32 - c) := h3
    refine ⟨by decide, fun q => absurd q h1, fun _ => ⟨fun q => absurd q h2, fun _ => ?_⟩⟩
    rw [h3]
    have e2 : (a % 32 + 32 - b) % 32 = 32 - c := by omega
    rw [← e2]; exact k
theorem x_stampOf {c : Nat} {K : Int32 → Prop} (hc : c < 1048576) (k : K (nI (c / 32768))) : wp_X0_stampOf (nI c) K := by
  rw [wp_X0_stampOf, show (32768 : Int32) = nI 32768 from rfl, pk_div (by omega) (by decide) (by decide)]; exact k
theorem m_stampOf {c : Nat} {K : Int32 → Prop} (hc : c < 1048576) (k : K (nI (c / 32768))) : wp_X9_stampOf (nI c) K := by
  rw [wp_X9_stampOf, show (32768 : Int32) = nI 32768 from rfl, pk_div (by omega) (by decide) (by decide)]; exact k
theorem opt_eq {c : Nat} (hc : c < 1048576) : jrem (nI c / 4096) 8 = nI (optN c) := by
  rw [show (4096 : Int32) = nI 4096 from rfl, pk_div (by omega) (by decide) (by decide)]
  exact jrem_nI (by omega) (by decide) (by decide)
theorem x_optionOf {c : Nat} {K : Int32 → Prop} (hc : c < 1048576) (k : K (nI (optN c))) : wp_X0_optionOf (nI c) K := by
  rw [wp_X0_optionOf, opt_eq hc]; exact k
theorem m_optionOf {c : Nat} {K : Int32 → Prop} (hc : c < 1048576) (k : K (nI (optN c))) : wp_X9_optionOf (nI c) K := by
  rw [wp_X9_optionOf, opt_eq hc]; exact k
theorem x_age {c ep : Nat} {K : Int32 → Prop} (hc : c < 1048576) (he : ep < 2 ^ 31) (k : K (nI (ageN ep c))) : wp_X0_age (nI c) (nI ep) K := by
  rw [wp_X0_age]
  exact x_stampOf hc (x_floorModSub he (by omega) k)
theorem ep_eq {t : Nat} (ht : t < 2 ^ 31) : nI t / 64 = nI (t / 64) := pk_div ht (by decide) (by decide)
theorem m_ageOf {f g e : Nat → Int32} {s : Int32} {h : Int64} {c t : Nat} {K : Int32 → Prop} (hf : f 0 = nI t) (ht : t < 2 ^ 31) (hc : c < 1048576) (k : K (nI (ageN (t / 64) c))) : wp_X9_ageOf f g s e h (nI c) K := by
  rw [wp_X9_ageOf, wp_X9_epochNow, hf, ep_eq ht]
  refine m_stampOf hc ?_
  rw [show (32 : Int32) = nI 32 from rfl, jrem_nI (by omega) (by decide) (by decide), nI_add, pk_sub (by omega), jrem_nI (by omega) (by decide) (by decide)]
  exact k
theorem stepN_lt (x v : Nat) : stepN x v < 65521 := Nat.mod_lt _ (by decide)
theorem x_step {x v : Nat} {K : Int32 → Prop} (hx : x ≤ 65520) (hv : v < 1048576) (k : K (nI (stepN x v))) : wp_X0_step (nI x) (nI v) K := by
  rw [wp_X0_step, show (16807 : Int32) = nI 16807 from rfl, show (1 : Int32) = nI 1 from rfl, show (65521 : Int32) = nI 65521 from rfl, pk_mul, nI_add, nI_add, jrem_nI (by omega) (by decide) (by decide)]
  exact k
theorem m_more {x v : Nat} {K : Int64 → Prop} (hx : x ≤ 65520) (hv : v < 1048576) (k : K (lN (stepN x v))) : wp_X9_more (lN x) (nI v) K := by
  rw [wp_X9_more, show (16807 : Int64) = lN 16807 from rfl, show (1 : Int64) = lN 1 from rfl, show (65521 : Int64) = lN 65521 from rfl, nI_l (by omega), lN_mul, lN_add, lN_add, jlrem_lN (by omega) (by decide) (by decide)]
  exact k
theorem x_mark {key place st op : Nat} {K : Int32 → Prop} (hk : key ≤ 65520) (hp : place < 128) (hs : st < 32) (ho : op < 8) (k : K (nI (markN key place st op))) : wp_X0_mark (nI key) (nI place) (nI st) (nI op) K := by
  rw [wp_X0_mark, show (8 : Int32) = nI 8 from rfl, pk_div (by omega) (by decide) (by decide), jrem_nI (by omega) (by decide) (by decide)]
  refine x_step hk (by omega) (x_step (by have := stepN_lt key (place / 8); omega) (by omega) (x_step (by have := stepN_lt (stepN key (place / 8)) (place % 8); omega) (by omega) (x_step (by have := stepN_lt (stepN (stepN key (place / 8)) (place % 8)) st; omega) (by omega) ?_)))
  rw [show (4096 : Int32) = nI 4096 from rfl, jrem_nI (by have := stepN_lt (stepN (stepN (stepN key (place / 8)) (place % 8)) st) op; omega) (by decide) (by decide)]
  exact k
theorem m_markOf {key c p st op : Nat} {K : Int32 → Prop} (hk : key ≤ 65520) (hc : c < 16) (hp : p < 8) (hs : st < 32) (ho : op < 8) (k : K (nI (markN key (8 * c + p) st op))) : wp_X9_markOf (nI c) (nI p) (nI st) (nI op) (nI key) K := by
  have e1 : (8 * c + p) / 8 = c := by omega
  have e2 : (8 * c + p) % 8 = p := by omega
  rw [wp_X9_markOf, nI_l (by omega)]
  refine m_more hk (by omega) (m_more (by have := stepN_lt key c; omega) (by omega) (m_more (by have := stepN_lt (stepN key c) p; omega) (by omega) (m_more (by have := stepN_lt (stepN (stepN key c) p) st; omega) (by omega) ?_)))
  rw [show (4096 : Int64) = lN 4096 from rfl, jlrem_lN (by have := stepN_lt (stepN (stepN (stepN key c) p) st) op; omega) (by decide) (by decide), lN_i]
  rw [markN, e1, e2] at k
  exact k
theorem segs_eq : ∀ i : Fin 8, segs.getD i.val 0 = nI (segN i.val) := by decide
theorem segs_at {i : Nat} (h : i < 8) : segs.getD i 0 = nI (segN i) := segs_eq ⟨i, h⟩
theorem segN_lt : ∀ i : Fin 8, segN i.val < 2000 := by decide
theorem x_sizeOfOption {o : Nat} {K : Int32 → Prop} (h : o < 8) (k : K (nI (segN o))) : wp_X0_sizeOfOption (nI o) K := by
  rw [wp_X0_sizeOfOption]
  refine x_within_in (l := 0) (h := 7) rfl rfl rfl (by omega) (by omega) (by decide) ⟨fun q => absurd q one_ne, fun _ => ⟨vp_in_nI h (by decide), ?_⟩⟩
  rw [nI_clamp (by omega), segs_at h]
  exact k
theorem m_sizeOf {o : Nat} {K : Int32 → Prop} (h : o < 8) (k : K (nI (segN o))) : wp_X9_sizeOf (nI o) K := by
  rw [wp_X9_sizeOf]
  match o, h with
  | 0, _ => exact ⟨fun _ => k, fun q => absurd q (by decide), fun q => absurd q (by decide), fun q => absurd q (by decide), fun q => absurd q (by decide), fun q => absurd q (by decide), fun q => absurd q (by decide), fun q => absurd rfl q.1⟩
  | 1, _ => exact ⟨fun q => absurd q (by decide), fun _ => k, fun q => absurd q (by decide), fun q => absurd q (by decide), fun q => absurd q (by decide), fun q => absurd q (by decide), fun q => absurd q (by decide), fun q => absurd rfl q.2.1⟩
  | 2, _ => exact ⟨fun q => absurd q (by decide), fun q => absurd q (by decide), fun _ => k, fun q => absurd q (by decide), fun q => absurd q (by decide), fun q => absurd q (by decide), fun q => absurd q (by decide), fun q => absurd rfl q.2.2.1⟩
  | 3, _ => exact ⟨fun q => absurd q (by decide), fun q => absurd q (by decide), fun q => absurd q (by decide), fun _ => k, fun q => absurd q (by decide), fun q => absurd q (by decide), fun q => absurd q (by decide), fun q => absurd rfl q.2.2.2.1⟩
  | 4, _ => exact ⟨fun q => absurd q (by decide), fun q => absurd q (by decide), fun q => absurd q (by decide), fun q => absurd q (by decide), fun _ => k, fun q => absurd q (by decide), fun q => absurd q (by decide), fun q => absurd rfl q.2.2.2.2.1⟩
  | 5, _ => exact ⟨fun q => absurd q (by decide), fun q => absurd q (by decide), fun q => absurd q (by decide), fun q => absurd q (by decide), fun q => absurd q (by decide), fun _ => k, fun q => absurd q (by decide), fun q => absurd rfl q.2.2.2.2.2.1⟩
  | 6, _ => exact ⟨fun q => absurd q (by decide), fun q => absurd q (by decide), fun q => absurd q (by decide), fun q => absurd q (by decide), fun q => absurd q (by decide), fun q => absurd q (by decide), fun _ => k, fun q => absurd rfl q.2.2.2.2.2.2⟩
  | 7, _ => exact ⟨fun q => absurd q (by decide), fun q => absurd q (by decide), fun q => absurd q (by decide), fun q => absurd q (by decide), fun q => absurd q (by decide), fun q => absurd q (by decide), fun q => absurd q (by decide), fun _ => k⟩
def OptOf (w o : Nat) : Prop := o < 8 ∧ segN o ≤ w ∧ ∀ j, o < j → j < 8 → w < segN j
theorem OptOf.uniq {w a b : Nat} (h1 : OptOf w a) (h2 : OptOf w b) : a = b := by
  rcases Nat.lt_trichotomy a b with h | h | h
  · have := h1.2.2 b h h2.1; have := h2.2.1; omega
  · exact h
  · have := h2.2.2 a h h1.1; have := h1.2.1; omega
theorem x_opt_loop {w : Nat} (hw : w < 2 ^ 31) {K : Int32 → Prop} (k : ∀ o, OptOf w o → K (nI o)) : ∀ (n i o : Nat), i + n = 9 → 1 ≤ i → i ≤ 8 → o < i → segN o ≤ w → (∀ j, o < j → j < i → w < segN j) → wpl_X0_optionForWish_4 K n (nI w) (nI o) (nI i) := by
  intro n
  induction n with
  | zero => intro i o h1 h2 h3; omega
  | succ n ih =>
    intro i o h1 h2 h3 ho hs hj
    rw [wpl_X0_optionForWish_4]
    rcases Nat.lt_or_ge i 8 with h | h
    · refine ⟨fun q => absurd q (by rw [show (8 : Int32) = nI 8 from rfl, nI_leI (by decide) (by omega)]; omega), fun _ => ⟨vp_in_nI h (by decide), fun q => ?_, fun q => ?_⟩⟩
      · rw [nI_clamp (by omega), segs_at h, nI_ltI hw (by have := segN_lt ⟨i, h⟩; simp only at this; omega)] at q
        rw [nI_1]
        refine ih (i + 1) o (by omega) (by omega) (by omega) (by omega) hs (fun j h4 h5 => ?_)
        rcases Nat.lt_or_ge j i with h6 | h6
        · exact hj j h4 h6
        · have : j = i := by omega
          subst this; exact q
      · rw [nI_clamp (by omega), segs_at h, nI_ltI hw (by have := segN_lt ⟨i, h⟩; simp only at this; omega)] at q
        rw [nI_1]
        exact ih (i + 1) i (by omega) (by omega) (by omega) (by omega) (by omega) (fun j h4 h5 => by omega)
    · have : i = 8 := by omega
      subst this
      exact ⟨fun _ => k o ⟨by omega, hs, hj⟩, fun q => absurd (by decide) q⟩
theorem x_optionForWish {w : Nat} (h1 : 64 ≤ w) (hw : w < 2 ^ 31) {K : Int32 → Prop} (k : ∀ o, OptOf w o → K (nI o)) : wp_X0_optionForWish (nI w) K := by
  rw [wp_X0_optionForWish]
  exact ⟨8, x_opt_loop hw k 8 1 0 (by omega) (by omega) (by omega) (by omega) h1 (fun j _ _ => by omega)⟩
theorem m_idx_loop {w : Nat} (h1 : 64 ≤ w) (hw : w < 2 ^ 31) {K : Int32 → Prop} (k : ∀ o, OptOf w o → K (nI o)) : ∀ (o : Nat), o < 8 → (∀ j, o < j → j < 8 → w < segN j) → wpl_X9_indexOf_3 K (o + 1) (nI w) (nI o) := by
  intro o
  induction o with
  | zero =>
    intro _ hj
    rw [wpl_X9_indexOf_3]
    refine m_sizeOf (by decide) ⟨fun _ => k 0 ⟨by decide, h1, hj⟩, fun q => absurd ?_ q⟩
    rw [nI_leI (by decide) hw]; exact h1
  | succ o ih =>
    intro ho hj
    rw [wpl_X9_indexOf_3]
    have hb := segN_lt ⟨o + 1, ho⟩
    simp only at hb
    refine m_sizeOf ho ⟨fun q => ?_, fun q => ?_⟩
    · rw [nI_leI (by omega) hw] at q
      exact k (o + 1) ⟨ho, q, hj⟩
    · rw [nI_leI (by omega) hw] at q
      rw [pk_m1]
      refine ih (by omega) (fun j h4 h5 => ?_)
      rcases Nat.lt_or_ge (o + 1) j with h6 | h6
      · exact hj j h6 h5
      · have : j = o + 1 := by omega
        subst this; omega
theorem m_indexOf {w : Nat} (h1 : 64 ≤ w) (hw : w < 2 ^ 31) {K : Int32 → Prop} (k : ∀ o, OptOf w o → K (nI o)) : wp_X9_indexOf (nI w) K := by
  rw [wp_X9_indexOf]
  exact ⟨8, m_idx_loop h1 hw k 7 (by decide) (fun j _ _ => by omega)⟩
/-- a solution -/
def digN (c s : Nat) : Nat := stepN (stepN 0 c) s % 4096
theorem msk : ∀ d : Fin 7, ((1 : Int32) <<< (nI d.val &&& 31)) - 1 = nI (2 ^ d.val - 1) := by decide
theorem x_isSolution {c d s : Nat} {K : Int32 → Prop} (hc : c < 1048576) (hd : d ≤ 6) (hs : s < 1048576) (k0 : ¬ digN c s % 2 ^ d = 0 → K 0) (k1 : digN c s % 2 ^ d = 0 → K 1) : wp_X0_isSolution (nI c) (nI d) (nI s) K := by
  rw [wp_X0_isSolution, show (0 : Int32) = nI 0 from rfl]
  refine x_step (by omega) hc (x_step (by have := stepN_lt 0 c; omega) hs ?_)
  have hl := stepN_lt (stepN 0 c) s
  have hm : ((1 : Int32) <<< (nI d &&& 31)) - 1 = nI (2 ^ d - 1) := msk ⟨d, by omega⟩
  rw [show (4096 : Int32) = nI 4096 from rfl, jrem_nI (by omega) (by decide) (by decide), hm, fa_mask]
  have hp : digN c s % 2 ^ d < 2 ^ 31 := Nat.lt_of_le_of_lt (Nat.mod_le _ _) (by unfold digN; omega)
  refine ⟨fun q => k0 (fun e => q ?_), fun q => k1 ?_⟩
  · show nI (digN c s % 2 ^ d) = nI 0
    rw [e]
  · exact (nI_eq hp (by decide)).mp q
theorem lcmp0 (a b : Int64) : lg_cmp a b = 0 ↔ a = b := by
  unfold lg_cmp
  by_cases h : b < a
  · rw [if_pos h]
    refine ⟨fun q => absurd q (by decide), fun e => ?_⟩
    subst e; exact (Int64.lt_irrefl h).elim
  · rw [if_neg h]
    by_cases h2 : a = b
    · rw [if_pos h2]; exact ⟨fun _ => h2, fun _ => rfl⟩
    · rw [if_neg h2]; exact ⟨fun q => absurd q (by decide), fun e => absurd e h2⟩
theorem m_sol_loop {c d s : Nat} (hd : d ≤ 6) {K : Int32 → Prop} : ∀ (n i m : Nat), i + n = d + 1 → i ≤ d → m < 4096 → (¬ m % 2 ^ (d - i) = 0 → K 0) → (m % 2 ^ (d - i) = 0 → K 1) → wpl_X9_isSolution_17 K n (nI c) (nI s) (nI d) (lN m) (nI i) := by
  intro n
  induction n with
  | zero => intro i m h1 h2; omega
  | succ n ih =>
    intro i m h1 h2 hm k0 k1
    rw [wpl_X9_isSolution_17]
    refine ⟨fun q => ?_, fun q => ?_⟩
    · rw [nI_leI (by omega) (by omega)] at q
      have : d - i = 0 := by omega
      rw [this] at k1
      exact k1 (by rw [Nat.pow_zero]; omega)
    · rw [nI_leI (by omega) (by omega)] at q
      have e : d - i = (d - (i + 1)) + 1 := by omega
      rw [show (2 : Int64) = lN 2 from rfl, show (1 : Int64) = lN 1 from rfl, jlrem_lN (by omega) (by decide) (by decide), lcmp0, pk_lEQ (by omega) (by decide), pk_lDiv (by omega) (by decide) (by decide), nI_1]
      have hpw : 2 ^ (d - i) = 2 * 2 ^ (d - (i + 1)) := by rw [e, Nat.pow_succ, Nat.mul_comm]
      refine ⟨fun q1 => ?_, fun q1 => k0 ?_⟩
      · have key : m % 2 ^ (d - i) = 0 ↔ (m / 2) % 2 ^ (d - (i + 1)) = 0 := by
          rw [hpw]
          rw [Nat.mod_mul]
          omega
        exact ih (i + 1) (m / 2) (by omega) (by omega) (by omega) (fun z => k0 (fun z2 => z (key.mp z2))) (fun z => k1 (key.mpr z))
      · rw [hpw, Nat.mod_mul]
        omega
theorem m_isSolution {c d s : Nat} {K : Int32 → Prop} (hc : c < 1048576) (hd : d ≤ 6) (hs : s < 1048576) (k0 : ¬ digN c s % 2 ^ d = 0 → K 0) (k1 : digN c s % 2 ^ d = 0 → K 1) : wp_X9_isSolution (nI c) (nI s) (nI d) K := by
  rw [wp_X9_isSolution, show (0 : Int64) = lN 0 from rfl]
  refine m_more (by omega) hc (m_more (by have := stepN_lt 0 c; omega) hs ?_)
  have hl := stepN_lt (stepN 0 c) s
  rw [show (4096 : Int64) = lN 4096 from rfl, jlrem_lN (by omega) (by decide) (by decide)]
  exact ⟨d + 1, m_sol_loop hd (d + 1) 0 (digN c s) (by omega) (by omega) (by unfold digN; omega) k0 k1⟩
