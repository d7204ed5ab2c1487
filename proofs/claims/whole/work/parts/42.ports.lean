/-! pure facts: ports -/
def PC (Q : Nat → Nat) (a : Nat → Int32) : Prop := ∀ j, j < 128 → a j = nI (Q j)
def PM (Q : Nat → Nat) (f : Nat → Int32) : Prop := ∀ j, j < 128 → f (40 + j) = nI (Q j)
def cntP (Q : Nat → Nat) : Nat := fb_ct (fun j => decide (0 < Q j)) 128
def cntC (Q : Nat → Nat) (c : Nat) : Nat := fb_ct (fun k => decide (0 < Q (8 * c + k))) 8
theorem x_isPlace_out {x y : Int32} {K : Int32 → Prop} (h : (x < 0 ∨ 15 < x) ∨ (y < 0 ∨ 7 < y)) (k : K 0) : wp_X8_isPlace x y K := by
  rw [wp_X8_isPlace, wp_X8_isClient]
  rcases h with h | h
  · exact x_within_out h ⟨rfl, fun _ => k, fun z => absurd rfl z⟩
  · rcases rng (x := x) (lo := 0) (hi := 15) (l := 0) (h := 15) rfl rfl (by decide) (by decide) with h1 | ⟨c, -, hc, rfl⟩
    · exact x_within_out h1 ⟨rfl, fun _ => k, fun z => absurd rfl z⟩
    · exact x_within_in (l := 0) (h := 15) rfl rfl rfl (by omega) hc (by decide) ⟨rfl, fun z => absurd z one_ne, fun _ => x_within_out h ⟨fun _ => k, fun z => absurd rfl z⟩⟩
theorem x_isPlace_in {c p : Nat} {K : Int32 → Prop} (hc : c < 16) (hp : p < 8) (k : K 1) : wp_X8_isPlace (nI c) (nI p) K := by
  rw [wp_X8_isPlace, wp_X8_isClient]
  exact x_within_in (l := 0) (h := 15) rfl rfl rfl (by omega) (by omega) (by decide) ⟨rfl, fun z => absurd z one_ne, fun _ => x_within_in (l := 0) (h := 7) rfl rfl rfl (by omega) (by omega) (by decide) ⟨fun z => absurd z one_ne, fun _ => k⟩⟩
theorem m_isPort_out {x y : Int32} {K : Int32 → Prop} (h : (x < 0 ∨ 15 < x) ∨ (y < 0 ∨ 7 < y)) (k : K 0) : wp_X9_isPort x y K := by
  rw [wp_X9_isPort]
  rcases h with h | h
  · exact m_within_out h ⟨fun _ => k, fun z => absurd rfl z⟩
  · rcases rng (x := x) (lo := 0) (hi := 15) (l := 0) (h := 15) rfl rfl (by decide) (by decide) with h1 | ⟨c, -, hc, rfl⟩
    · exact m_within_out h1 ⟨fun _ => k, fun z => absurd rfl z⟩
    · exact m_within_in (l := 0) (h := 15) rfl rfl rfl (by omega) hc (by decide) ⟨fun z => absurd z one_ne, fun _ => m_within_out h ⟨fun _ => k, fun z => absurd rfl z⟩⟩
theorem m_isPort_in {c p : Nat} {K : Int32 → Prop} (hc : c < 16) (hp : p < 8) (k : K 1) : wp_X9_isPort (nI c) (nI p) K := by
  rw [wp_X9_isPort]
  exact m_within_in (l := 0) (h := 15) rfl rfl rfl (by omega) (by omega) (by decide) ⟨fun z => absurd z one_ne, fun _ => m_within_in (l := 0) (h := 7) rfl rfl rfl (by omega) (by omega) (by decide) ⟨fun z => absurd z one_ne, fun _ => k⟩⟩
/-- a place in range, or not -/
theorem place_cases (x y : Int32) : ((x < 0 ∨ 15 < x) ∨ (y < 0 ∨ 7 < y)) ∨ ∃ c p : Nat, c < 16 ∧ p < 8 ∧ x = nI c ∧ y = nI p := by
  rcases rng (x := x) (lo := 0) (hi := 15) (l := 0) (h := 15) rfl rfl (by decide) (by decide) with h1 | ⟨c, -, hc, rfl⟩
  · exact Or.inl (Or.inl h1)
  · rcases rng (x := y) (lo := 0) (hi := 7) (l := 0) (h := 7) rfl rfl (by decide) (by decide) with h1 | ⟨p, -, hp, rfl⟩
    · exact Or.inl (Or.inr h1)
    · exact Or.inr ⟨c, p, by omega, by omega, rfl, rfl⟩
theorem x_placeOf {c p : Nat} {K : Int32 → Prop} (k : K (nI (8 * c + p))) : wp_X8_placeOf (nI c) (nI p) K := by
  rw [wp_X8_placeOf, show (8 : Int32) = nI 8 from rfl, pk_mul, nI_add, Nat.mul_comm]; exact k
theorem x_isConnected {Q : Nat → Nat} {a : Nat → Int32} {n : Int32} (h : PC Q a) (hb : ∀ j, j < 128 → Q j ≤ 8) {p : Nat} (hp : p < 128) {K : Int32 → Prop} (k0 : Q p = 0 → K 0) (k1 : 0 < Q p → K 1) : wp_X4_isConnected a n (nI p) K := by
  have := hb p hp
  rw [wp_X4_isConnected, nI_clamp (by omega), h p hp, show (0 : Int32) = nI 0 from rfl, nI_leI (by omega) (by decide)]
  exact ⟨vp_in_nI hp (by decide), fun z => k0 (by omega), fun z => k1 (by omega)⟩
theorem m_sizeAt {f g e : Nat → Int32} {s : Int32} {hh : Int64} {c p : Nat} {K : Int32 → Prop} (k : K (nI (40 + (8 * c + p)))) : wp_X9_sizeAt f g s e hh (nI c) (nI p) K := by
  rw [wp_X9_sizeAt, show (8 : Int32) = nI 8 from rfl, show (40 : Int32) = nI 40 from rfl, pk_mul, nI_add, nI_add, Nat.add_assoc]; exact k
theorem m_isConnected {Q : Nat → Nat} {f g e : Nat → Int32} {s : Int32} {hh : Int64} (h : PM Q f) (hb : ∀ j, j < 128 → Q j ≤ 8) {c p : Nat} (hc : c < 16) (hp : p < 8) {K : Int32 → Prop} (k0 : Q (8 * c + p) = 0 → K 0) (k1 : 0 < Q (8 * c + p) → K 1) : wp_X9_isConnected f g s e hh (nI c) (nI p) K := by
  have := hb (8 * c + p) (by omega)
  rw [wp_X9_isConnected]
  refine m_sizeAt ⟨vp_in_nI (by omega) (by decide), ?_⟩
  rw [nI_clamp (by omega), h _ (by omega), show (0 : Int32) = nI 0 from rfl, nI_leI (by omega) (by decide)]
  exact ⟨fun z => k0 (by omega), fun z => k1 (by omega)⟩
theorem x_countOf_loop {Q : Nat → Nat} {a : Nat → Int32} {n9 : Int32} (h : PC Q a) (hb : ∀ j, j < 128 → Q j ≤ 8) {c : Nat} (hc : c < 16) {K : Int32 → Prop} (k : K (nI (cntC Q c))) : ∀ (n i : Nat), i + n = 9 → i ≤ 8 → wpl_X4_countOf_4 a n9 K n (nI c) (nI (fb_ct (fun k => decide (0 < Q (8 * c + k))) i)) (nI i) := by
  intro n
  induction n with
  | zero => intro i h1 h2; omega
  | succ n ih =>
    intro i h1 h2
    rw [wpl_X4_countOf_4]
    rcases Nat.lt_or_ge i 8 with q | q
    · refine ⟨fun z => absurd z (by rw [show (8 : Int32) = nI 8 from rfl, nI_leI (by decide) (by omega)]; omega), fun _ => x_placeOf (x_isConnected h hb (by omega) (fun z => ⟨fun _ => ?_, fun y => absurd rfl y⟩) (fun z => ⟨fun y => absurd y one_ne, fun _ => ?_⟩))⟩
      · have e : fb_ct (fun k => decide (0 < Q (8 * c + k))) (i + 1) = fb_ct (fun k => decide (0 < Q (8 * c + k))) i := by
          rw [fb_ct_succ]; simp [z]
        rw [nI_1, ← e]
        exact ih (i + 1) (by omega) (by omega)
      · have e : fb_ct (fun k => decide (0 < Q (8 * c + k))) (i + 1) = fb_ct (fun k => decide (0 < Q (8 * c + k))) i + 1 := by
          rw [fb_ct_succ]; simp [z]
        rw [nI_1, nI_1, ← e]
        exact ih (i + 1) (by omega) (by omega)
    · have : i = 8 := by omega
      subst this
      exact ⟨fun _ => k, fun z => absurd (by decide) z⟩
theorem x_countOf {Q : Nat → Nat} {a : Nat → Int32} {n9 : Int32} (h : PC Q a) (hb : ∀ j, j < 128 → Q j ≤ 8) {c : Nat} (hc : c < 16) {K : Int32 → Prop} (k : K (nI (cntC Q c))) : wp_X4_countOf a n9 (nI c) K := by
  rw [wp_X4_countOf]
  exact ⟨9, x_countOf_loop h hb hc k 9 0 (by omega) (by omega)⟩
theorem m_connOf_loop {Q : Nat → Nat} {f g e : Nat → Int32} {s : Int32} {hh : Int64} (h : PM Q f) (hb : ∀ j, j < 128 → Q j ≤ 8) {c : Nat} (hc : c < 16) {K : Int32 → Prop} (k : K (nI (cntC Q c))) : ∀ (n i : Nat), i + n = 9 → i ≤ 8 → wpl_X9_connectionsOf_4 f g s e hh K n (nI c) (nI (fb_ct (fun k => decide (0 < Q (8 * c + k))) i)) (nI i) := by
  intro n
  induction n with
  | zero => intro i h1 h2; omega
  | succ n ih =>
    intro i h1 h2
    rw [wpl_X9_connectionsOf_4]
    rcases Nat.lt_or_ge i 8 with q | q
    · refine ⟨fun z => absurd z (by rw [show (8 : Int32) = nI 8 from rfl, nI_leI (by decide) (by omega)]; omega), fun _ => m_isConnected h hb hc q (fun z => ⟨fun _ => ?_, fun y => absurd rfl y⟩) (fun z => ⟨fun y => absurd y one_ne, fun _ => ?_⟩)⟩
      · have e : fb_ct (fun k => decide (0 < Q (8 * c + k))) (i + 1) = fb_ct (fun k => decide (0 < Q (8 * c + k))) i := by
          rw [fb_ct_succ]; simp [z]
        rw [nI_1, show (0 : Int32) = nI 0 from rfl, nI_add, Nat.add_zero, ← e]
        exact ih (i + 1) (by omega) (by omega)
      · have e : fb_ct (fun k => decide (0 < Q (8 * c + k))) (i + 1) = fb_ct (fun k => decide (0 < Q (8 * c + k))) i + 1 := by
          rw [fb_ct_succ]; simp [z]
        rw [nI_1, nI_1, ← e]
        exact ih (i + 1) (by omega) (by omega)
    · have : i = 8 := by omega
      subst this
      exact ⟨fun _ => k, fun z => absurd (by decide) z⟩
theorem m_connectionsOf {Q : Nat → Nat} {f g e : Nat → Int32} {s : Int32} {hh : Int64} (h : PM Q f) (hb : ∀ j, j < 128 → Q j ≤ 8) {c : Nat} (hc : c < 16) {K : Int32 → Prop} (k : K (nI (cntC Q c))) : wp_X9_connectionsOf f g s e hh (nI c) K := by
  rw [wp_X9_connectionsOf]
  exact ⟨9, m_connOf_loop h hb hc k 9 0 (by omega) (by omega)⟩
theorem cnt_sum (Q : Nat → Nat) : ∀ n, fb_sm (cntC Q) n = fb_ct (fun j => decide (0 < Q j)) (8 * n)
  | 0 => rfl
  | n + 1 => by
    rw [fb_sm_succ, cnt_sum Q n, Nat.mul_succ, fb_ct_split]
    rfl
theorem m_conn_loop {Q : Nat → Nat} {f g e : Nat → Int32} {s : Int32} {hh : Int64} (h : PM Q f) (hb : ∀ j, j < 128 → Q j ≤ 8) {K : Int32 → Prop} (k : K (nI (cntP Q))) : ∀ (n i : Nat), i + n = 17 → i ≤ 16 → wpl_X9_connections_4 f g s e hh K n (nI (fb_sm (cntC Q) i)) (nI i) := by
  intro n
  induction n with
  | zero => intro i h1 h2; omega
  | succ n ih =>
    intro i h1 h2
    rw [wpl_X9_connections_4]
    rcases Nat.lt_or_ge i 16 with q | q
    · refine ⟨fun z => absurd z (by rw [show (16 : Int32) = nI 16 from rfl, nI_leI (by decide) (by omega)]; omega), fun _ => m_connectionsOf h hb q ?_⟩
      rw [nI_add, nI_1]
      exact ih (i + 1) (by omega) (by omega)
    · have : i = 16 := by omega
      subst this
      refine ⟨fun _ => ?_, fun z => absurd (by decide) z⟩
      rw [cnt_sum]; exact k
theorem m_connections {Q : Nat → Nat} {f g e : Nat → Int32} {s : Int32} {hh : Int64} (h : PM Q f) (hb : ∀ j, j < 128 → Q j ≤ 8) {K : Int32 → Prop} (k : K (nI (cntP Q))) : wp_X9_connections f g s e hh K := by
  rw [wp_X9_connections]
  exact ⟨17, m_conn_loop h hb k 17 0 (by omega) (by omega)⟩
theorem cnt_nup (Q : Nat → Nat) {p : Nat} (hp : p < 128) (v : Nat) : cntP (nup Q p v) + (if 0 < Q p then 1 else 0) = cntP Q + (if 0 < v then 1 else 0) := by
  unfold cntP
  have e := fb_ct_upd (fun j => decide (0 < Q j)) (decide (0 < v)) hp
  have e2 : fb_ct (fun j => decide (0 < nup Q p v j)) 128 = fb_ct (fun k => if k = p then decide (0 < v) else decide (0 < Q k)) 128 := fb_ct_cong (fun j _ => by
    by_cases x : j = p
    · subst x; rw [nup_s, if_pos rfl]
    · rw [nup_n x, if_neg x])
  rw [e2]
  simp only [decide_eq_true_eq] at e
  exact e
theorem cnt_in (Q : Nat → Nat) {p : Nat} (hp : p < 128) (h : 0 < Q p) : 0 < cntP Q := by
  unfold cntP
  rw [fb_ct_pos]
  exact ⟨p, hp, decide_eq_true h⟩
