/-! pure facts: entries (a list of place, cookie, tick) -/
abbrev Ent : Type := Nat × Nat × Nat
def R3 (M : List Ent) (a b c : Nat → Int32) : Prop := ∀ j e, M[j]? = some e → a j = nI e.1 ∧ b j = nI e.2.1 ∧ c j = nI e.2.2
def EM (L : List Ent) (f : Nat → Int32) : Prop := f 3 = nI L.length ∧ ∀ j e, L[j]? = some e → f (24 + 4 * j) = nI (e.1 / 8) ∧ f (24 + 4 * j + 1) = nI (e.1 % 8) ∧ f (24 + 4 * j + 2) = nI e.2.1 ∧ f (24 + 4 * j + 3) = nI e.2.2
def EI (L : List Ent) (t : Nat) : Prop := L.length ≤ 4 ∧ (∀ (i j : Nat) (e d : Ent), L[i]? = some e → L[j]? = some d → e.1 = d.1 → i = j) ∧ ∀ e ∈ L, e.1 < 128 ∧ e.2.1 < 1048576 ∧ e.2.2 ≤ t
theorem x_find_loop {L : List Ent} {a b c : Nat → Int32} (h : R3 L a b c) (hl : L.length ≤ 4) (hb : ∀ e ∈ L, e.1 < 128) {p : Nat} (hp : p < 128) {K : Int32 → Prop} (k1 : ∀ i e, L[i]? = some e → e.1 = p → K (nI i)) (k2 : (∀ e ∈ L, e.1 ≠ p) → K (-1)) : ∀ (n i : Nat), i + n = L.length + 1 → i ≤ L.length → (∀ j e, j < i → L[j]? = some e → e.1 ≠ p) → wpl_X1_find_2 a b c (nI L.length) K n (nI p) (nI i) := by
  intro n
  induction n with
  | zero => intro i h1 h2; omega
  | succ n ih =>
    intro i h1 h2 hn
    rw [wpl_X1_find_2]
    rcases Nat.lt_or_ge i L.length with q | q
    · have hi : L[i]? = some L[i] := List.getElem?_eq_getElem q
      have hm := hb _ (List.getElem_mem q)
      refine ⟨fun z => absurd z (by rw [nI_leI (by omega) (by omega)]; omega), fun _ => ⟨vp_in_nI (by omega) (by decide), fun z => ?_, fun z => ?_⟩⟩
      · rw [nI_clamp (by omega), (h i _ hi).1, nI_eq (by omega) (by omega)] at z
        rw [nI_1]
        refine ih (i + 1) (by omega) (by omega) (fun j e hj he => ?_)
        rcases Nat.lt_or_ge j i with y | y
        · exact hn j e y he
        · have : j = i := by omega
          subst this
          rw [hi] at he; cases he; exact z
      · rw [nI_clamp (by omega), (h i _ hi).1, nI_eq (by omega) (by omega)] at z
        exact k1 i _ hi z
    · have : i = L.length := by omega
      subst this
      refine ⟨fun _ => k2 (fun e he => ?_), fun z => absurd (by rw [nI_leI (by omega) (by omega)]; omega) z⟩
      obtain ⟨j, hj⟩ := List.getElem?_of_mem he
      exact hn j e (List.getElem?_eq_some_iff.mp hj).1 hj
theorem x_find {L : List Ent} {a b c : Nat → Int32} (h : R3 L a b c) (hl : L.length ≤ 4) (hb : ∀ e ∈ L, e.1 < 128) {p : Nat} (hp : p < 128) {K : Int32 → Prop} (k1 : ∀ i e, L[i]? = some e → e.1 = p → K (nI i)) (k2 : (∀ e ∈ L, e.1 ≠ p) → K (-1)) : wp_X1_find a b c (nI L.length) (nI p) K := by
  rw [wp_X1_find]
  exact ⟨L.length + 1, x_find_loop h hl hb hp k1 k2 _ 0 (by omega) (by omega) (fun j e hj => by omega)⟩
theorem m_entryOf_loop {L : List Ent} {f g e9 : Nat → Int32} {s : Int32} {hh : Int64} {t : Nat} (h : EM L f) (hi9 : EI L t) {c p : Nat} (hc : c < 16) (hp : p < 8) {K : Int32 → Prop} : ∀ (n i : Nat) (x : Int32), i + n = L.length + 1 → i ≤ L.length → ((∀ j e, j < i → L[j]? = some e → e.1 ≠ 8 * c + p) → x = -1) → (∀ j e, j < i → L[j]? = some e → e.1 = 8 * c + p → x = nI j) → (∀ j e, L[j]? = some e → e.1 = 8 * c + p → K (nI j)) → ((∀ e ∈ L, e.1 ≠ 8 * c + p) → K (-1)) → wpl_X9_entryOf_5 f g s e9 hh K n (nI c) (nI p) x (nI i) := by
  intro n
  induction n with
  | zero => intro i x h1 h2; omega
  | succ n ih =>
    intro i x h1 h2 hx1 hx2 k1 k2
    rw [wpl_X9_entryOf_5, h.1]
    have hl4 := hi9.1
    rcases Nat.lt_or_ge i L.length with q | q
    · have hi : L[i]? = some L[i] := List.getElem?_eq_getElem q
      have hm := hi9.2.2 _ (List.getElem_mem q)
      obtain ⟨g1, g2, -, -⟩ := h.2 i _ hi
      have step : ∀ (y : Int32), ((∀ j e, j < i + 1 → L[j]? = some e → e.1 ≠ 8 * c + p) → y = -1) → (∀ j e, j < i + 1 → L[j]? = some e → e.1 = 8 * c + p → y = nI j) → wpl_X9_entryOf_5 f g s e9 hh K n (nI c) (nI p) y (nI i + 1) := fun y y1 y2 => by
        rw [nI_1]
        exact ih (i + 1) y (by omega) (by omega) y1 y2 k1 k2
      have skip : L[i].1 ≠ 8 * c + p → wpl_X9_entryOf_5 f g s e9 hh K n (nI c) (nI p) x (nI i + 1) := fun z => by
        refine step x (fun w => hx1 (fun j e hj he => w j e (by omega) he)) (fun j e hj he h8 => ?_)
        rcases Nat.lt_or_ge j i with y | y
        · exact hx2 j e y he h8
        · have : j = i := by omega
          subst this
          rw [hi] at he; cases he; exact absurd h8 z
      refine ⟨fun z => absurd z (by rw [nI_leI (by omega) (by omega)]; omega), fun _ => ?_⟩
      rw [show (24 : Int32) = nI 24 from rfl, show (4 : Int32) = nI 4 from rfl, pk_mul, nI_add, show nI (24 + 4 * i) + 1 = nI (24 + 4 * i + 1) from nI_1 _]
      refine ⟨vp_in_nI (by omega) (by decide), ?_⟩
      rw [nI_clamp (by omega), nI_clamp (by omega), g1, g2, nI_eq (by omega) (by omega), nI_eq (by omega) (by omega)]
      refine ⟨fun z => skip (by omega), fun z => ⟨vp_in_nI (by omega) (by decide), fun z2 => skip (by omega), fun z2 => ?_⟩⟩
      have h8 : L[i].1 = 8 * c + p := by omega
      refine step (nI i) (fun w => absurd h8 (w i _ (by omega) hi)) (fun j e hj he h9 => ?_)
      have := hi9.2.1 j i e _ he hi (by omega)
      rw [this]
    · have : i = L.length := by omega
      subst this
      refine ⟨fun _ => ?_, fun z => absurd (by rw [nI_leI (by omega) (by omega)]; omega) z⟩
      by_cases w : ∃ (j : Nat) (e : Ent), L[j]? = some e ∧ e.1 = 8 * c + p
      · obtain ⟨j, e, he, h8⟩ := w
        rw [hx2 j e (List.getElem?_eq_some_iff.mp he).1 he h8]
        exact k1 j e he h8
      · rw [hx1 (fun j e hj he h8 => w ⟨j, e, he, h8⟩)]
        refine k2 (fun e he h8 => ?_)
        obtain ⟨j, hj⟩ := List.getElem?_of_mem he
        exact w ⟨j, e, hj, h8⟩
theorem m_entryOf {L : List Ent} {f g e9 : Nat → Int32} {s : Int32} {hh : Int64} {t : Nat} (h : EM L f) (hi9 : EI L t) {c p : Nat} (hc : c < 16) (hp : p < 8) {K : Int32 → Prop} (k1 : ∀ j e, L[j]? = some e → e.1 = 8 * c + p → K (nI j)) (k2 : (∀ e ∈ L, e.1 ≠ 8 * c + p) → K (-1)) : wp_X9_entryOf f g s e9 hh (nI c) (nI p) K := by
  rw [wp_X9_entryOf]
  exact ⟨L.length + 1, m_entryOf_loop h hi9 hc hp _ 0 (-1) (by omega) (by omega) (fun _ => rfl) (fun j e hj => by omega) k1 k2⟩
/-- moving a row down -/
theorem x_move {a b c : Nat → Int32} {n : Int32} {i j : Nat} (hi : i < 4) (hj : j < 4) {K : (Nat → Int32) → (Nat → Int32) → (Nat → Int32) → Prop} (k : K (upd a j (a i)) (upd b j (b i)) (upd c j (c i))) : wp_X1_move a b c n (nI i) (nI j) K := by
  rw [wp_X1_move]
  have v1 : vp_in (nI i) 4 := vp_in_nI hi (by decide)
  have v2 : vp_in (nI j) 4 := vp_in_nI hj (by decide)
  refine ⟨v1, v2, fun f1 e1 => ⟨v1, v2, fun f2 e2 => ⟨v1, v2, fun f3 e3 => ?_⟩⟩⟩
  rw [nI_clamp (by omega), nI_clamp (by omega)] at e1 e2 e3
  subst e1; subst e2; subst e3
  exact k
theorem R3.push {M : List Ent} {a b c : Nat → Int32} (h : R3 M a b c) {e : Ent} {x y z : Int32} (hx : x = nI e.1) (hy : y = nI e.2.1) (hz : z = nI e.2.2) : R3 (M ++ [e]) (upd a M.length x) (upd b M.length y) (upd c M.length z) := by
  intro j d hj
  rcases Nat.lt_or_ge j M.length with q | q
  · rw [List.getElem?_append_left q] at hj
    rw [pk_un (by omega), pk_un (by omega), pk_un (by omega)]
    exact h j d hj
  · rw [List.getElem?_append_right q] at hj
    have : j - M.length = 0 := by
      have := (List.getElem?_eq_some_iff.mp hj).1
      simp only [List.length_cons, List.length_nil] at this; omega
    have e2 : j = M.length := by omega
    subst e2
    rw [this] at hj
    cases hj
    rw [pk_us, pk_us, pk_us]
    exact ⟨hx, hy, hz⟩
/-- what lies from i on is kept by a write below -/
theorem far_kept {L : List Ent} {a b c : Nat → Int32} {i k : Nat} (hk : k < i + 1) (h : ∀ j e, i ≤ j → L[j]? = some e → a j = nI e.1 ∧ b j = nI e.2.1 ∧ c j = nI e.2.2) (x y z : Int32) : ∀ j e, i + 1 ≤ j → L[j]? = some e → upd a k x j = nI e.1 ∧ upd b k y j = nI e.2.1 ∧ upd c k z j = nI e.2.2 := by
  intro j e hj he
  rw [pk_un (by omega), pk_un (by omega), pk_un (by omega)]
  exact h j e (by omega) he
theorem x_expire_loop {L : List Ent} {t : Nat} (hl : L.length ≤ 4) (hb : ∀ e ∈ L, e.2.2 ≤ t) (ht : t < 2 ^ 30) {K : (Nat → Int32) → (Nat → Int32) → (Nat → Int32) → Int32 → Prop} : ∀ (n i : Nat) (M : List Ent) (a b c : Nat → Int32), i + n = L.length + 1 → i ≤ L.length → M.length ≤ i → R3 M a b c → (∀ j e, i ≤ j → L[j]? = some e → a j = nI e.1 ∧ b j = nI e.2.1 ∧ c j = nI e.2.2) → (∀ a' b' c', R3 (M ++ (L.drop i).filter (fun e => t < e.2.2 + 20)) a' b' c' → K a' b' c' (nI (M ++ (L.drop i).filter (fun e => t < e.2.2 + 20)).length)) → wpl_X1_expire_4 K n (nI t) (nI M.length) (nI i) a b c (nI L.length) := by
  intro n
  induction n with
  | zero => intro i M a b c h1 h2; omega
  | succ n ih =>
    intro i M a b c h1 h2 hM hR hF k
    rw [wpl_X1_expire_4]
    rcases Nat.lt_or_ge i L.length with q | q
    · have hi : L[i]? = some L[i] := List.getElem?_eq_getElem q
      have hm := hb _ (List.getElem_mem q)
      obtain ⟨g1, g2, g3⟩ := hF i _ (Nat.le_refl _) hi
      have hd : L.drop i = L[i] :: L.drop (i + 1) := List.drop_eq_getElem_cons q
      rw [hd] at k
      refine ⟨fun z => absurd z (by rw [nI_leI (by omega) (by omega)]; omega), fun _ => ⟨vp_in_nI (by omega) (by decide), fun z => ?_, fun z => ?_⟩⟩
      · rw [nI_clamp (by omega), g3, pk_sub hm, show (20 : Int32) = nI 20 from rfl, nI_leI (by decide) (by omega)] at z
        rw [List.filter_cons_of_neg (by simp only [decide_eq_true_eq]; omega)] at k
        rw [nI_1]
        exact ih (i + 1) M a b c (by omega) (by omega) (by omega) hR (fun j e hj => hF j e (by omega)) k
      · rw [nI_clamp (by omega), g3, pk_sub hm, show (20 : Int32) = nI 20 from rfl, nI_leI (by decide) (by omega)] at z
        rw [List.filter_cons_of_pos (by simp only [decide_eq_true_eq]; omega)] at k
        refine x_move (by omega) (by omega) ?_
        rw [nI_1, nI_1]
        have hR2 := hR.push (e := L[i]) g1 g2 g3
        have el : M.length + 1 = (M ++ [L[i]]).length := by simp
        rw [el]
        refine ih (i + 1) (M ++ [L[i]]) _ _ _ (by omega) (by omega) (by rw [← el]; omega) hR2 (far_kept (by omega) hF _ _ _) ?_
        rw [List.append_assoc]
        exact k
    · have : i = L.length := by omega
      subst this
      refine ⟨fun _ => ?_, fun z => absurd (by rw [nI_leI (by omega) (by omega)]; omega) z⟩
      rw [List.drop_length, List.filter_nil, List.append_nil] at k
      exact k a b c hR
theorem x_expire {L : List Ent} {a b c : Nat → Int32} {t : Nat} (h : R3 L a b c) (hl : L.length ≤ 4) (hb : ∀ e ∈ L, e.2.2 ≤ t) (ht : t < 2 ^ 30) {K : (Nat → Int32) → (Nat → Int32) → (Nat → Int32) → Int32 → Prop} (k : ∀ a' b' c', R3 (L.filter (fun e => t < e.2.2 + 20)) a' b' c' → K a' b' c' (nI (L.filter (fun e => t < e.2.2 + 20)).length)) : wp_X1_expire a b c (nI L.length) (nI t) K := by
  rw [wp_X1_expire]
  exact ⟨L.length + 1, x_expire_loop hl hb ht _ 0 [] a b c (by omega) (by omega) (Nat.le_refl _) (fun j e hj => by simp at hj) (fun j e _ he => h j e he) k⟩
theorem x_drop_loop {L : List Ent} {p : Nat} (hl : L.length ≤ 4) (hb : ∀ e ∈ L, e.1 < 128) (hp : p < 128) {K : (Nat → Int32) → (Nat → Int32) → (Nat → Int32) → Int32 → Prop} : ∀ (n i : Nat) (M : List Ent) (a b c : Nat → Int32), i + n = L.length + 1 → i ≤ L.length → M.length ≤ i → R3 M a b c → (∀ j e, i ≤ j → L[j]? = some e → a j = nI e.1 ∧ b j = nI e.2.1 ∧ c j = nI e.2.2) → (∀ a' b' c', R3 (M ++ (L.drop i).filter (fun e => e.1 ≠ p)) a' b' c' → K a' b' c' (nI (M ++ (L.drop i).filter (fun e => e.1 ≠ p)).length)) → wpl_X1_drop_4 K n (nI p) (nI M.length) (nI i) a b c (nI L.length) := by
  intro n
  induction n with
  | zero => intro i M a b c h1 h2; omega
  | succ n ih =>
    intro i M a b c h1 h2 hM hR hF k
    rw [wpl_X1_drop_4]
    rcases Nat.lt_or_ge i L.length with q | q
    · have hi : L[i]? = some L[i] := List.getElem?_eq_getElem q
      have hm := hb _ (List.getElem_mem q)
      obtain ⟨g1, g2, g3⟩ := hF i _ (Nat.le_refl _) hi
      have hd : L.drop i = L[i] :: L.drop (i + 1) := List.drop_eq_getElem_cons q
      rw [hd] at k
      refine ⟨fun z => absurd z (by rw [nI_leI (by omega) (by omega)]; omega), fun _ => ⟨vp_in_nI (by omega) (by decide), fun z => ?_, fun z => ?_⟩⟩
      · rw [nI_clamp (by omega), g1, nI_eq (by omega) (by omega)] at z
        rw [List.filter_cons_of_neg (by simp only [decide_eq_true_eq]; omega)] at k
        rw [nI_1]
        exact ih (i + 1) M a b c (by omega) (by omega) (by omega) hR (fun j e hj => hF j e (by omega)) k
      · rw [nI_clamp (by omega), g1, nI_eq (by omega) (by omega)] at z
        rw [List.filter_cons_of_pos (by simp only [decide_eq_true_eq]; omega)] at k
        refine x_move (by omega) (by omega) ?_
        rw [nI_1, nI_1]
        have hR2 := hR.push (e := L[i]) g1 g2 g3
        have el : M.length + 1 = (M ++ [L[i]]).length := by simp
        rw [el]
        refine ih (i + 1) (M ++ [L[i]]) _ _ _ (by omega) (by omega) (by rw [← el]; omega) hR2 (far_kept (by omega) hF _ _ _) ?_
        rw [List.append_assoc]
        exact k
    · have : i = L.length := by omega
      subst this
      refine ⟨fun _ => ?_, fun z => absurd (by rw [nI_leI (by omega) (by omega)]; omega) z⟩
      rw [List.drop_length, List.filter_nil, List.append_nil] at k
      exact k a b c hR
theorem x_drop {L : List Ent} {a b c : Nat → Int32} {p : Nat} (h : R3 L a b c) (hl : L.length ≤ 4) (hb : ∀ e ∈ L, e.1 < 128) (hp : p < 128) {K : (Nat → Int32) → (Nat → Int32) → (Nat → Int32) → Int32 → Prop} (k : ∀ a' b' c', R3 (L.filter (fun e => e.1 ≠ p)) a' b' c' → K a' b' c' (nI (L.filter (fun e => e.1 ≠ p)).length)) : wp_X1_drop a b c (nI L.length) (nI p) K := by
  rw [wp_X1_drop]
  exact ⟨L.length + 1, x_drop_loop hl hb hp _ 0 [] a b c (by omega) (by omega) (Nat.le_refl _) (fun j e hj => by simp at hj) (fun j e _ he => h j e he) k⟩
