/-! pure facts: used cookies of the class; time -/
def R2 (M : List Use) (a b : Nat → Int32) : Prop := ∀ (j : Nat) (e : Use), M[j]? = some e → a j = nI e.1 ∧ b j = nI e.2
theorem R2.push {M : List Use} {a b : Nat → Int32} (h : R2 M a b) {e : Use} {x y : Int32} (hx : x = nI e.1) (hy : y = nI e.2) : R2 (M ++ [e]) (upd a M.length x) (upd b M.length y) := by
  intro j d hj
  rcases Nat.lt_or_ge j M.length with q | q
  · rw [List.getElem?_append_left q] at hj
    rw [pk_un (by omega), pk_un (by omega)]
    exact h j d hj
  · rw [List.getElem?_append_right q] at hj
    have : j - M.length = 0 := by
      have := (List.getElem?_eq_some_iff.mp hj).1
      simp only [List.length_cons, List.length_nil] at this; omega
    have e2 : j = M.length := by omega
    subst e2
    rw [this] at hj
    cases hj
    rw [pk_us, pk_us]
    exact ⟨hx, hy⟩
theorem x_contains_loop {U : List Use} {a b : Nat → Int32} (h : R2 U a b) (hl : U.length ≤ 20) (hb : ∀ e ∈ U, e.1 < 128 ∧ e.2 < 1048576) {p c : Nat} (hp : p < 128) (hc : c < 1048576) {K : Int32 → Prop} (k1 : (p, c) ∈ U → K 1) (k0 : (p, c) ∉ U → K 0) : ∀ (n i : Nat), i + n = U.length + 1 → i ≤ U.length → (∀ (j : Nat) (e : Use), j < i → U[j]? = some e → e ≠ (p, c)) → wpl_X7_contains_2 a b (nI U.length) K n (nI p) (nI c) (nI i) := by
  intro n
  induction n with
  | zero => intro i h1 h2; omega
  | succ n ih =>
    intro i h1 h2 hn
    rw [wpl_X7_contains_2]
    rcases Nat.lt_or_ge i U.length with q | q
    · have hi : U[i]? = some U[i] := List.getElem?_eq_getElem q
      have hm := hb _ (List.getElem_mem q)
      obtain ⟨g1, g2⟩ := h i _ hi
      have v : vp_in (nI i) 20 := vp_in_nI (by omega) (by decide)
      have skip : U[i] ≠ (p, c) → wpl_X7_contains_2 a b (nI U.length) K n (nI p) (nI c) (nI i + 1) := fun z => by
        rw [nI_1]
        refine ih (i + 1) (by omega) (by omega) (fun j e hj he => ?_)
        rcases Nat.lt_or_ge j i with y | y
        · exact hn j e y he
        · have : j = i := by omega
          subst this
          rw [hi] at he; cases he; exact z
      rw [nI_clamp (by omega), g1, g2, nI_eq (by omega) (by omega), nI_eq (by omega) (by omega)]
      refine ⟨fun z => absurd z (by rw [nI_leI (by omega) (by omega)]; omega), fun _ => ⟨v, fun z => skip (fun w => z (by rw [w])), fun z => ⟨v, fun z2 => skip (fun w => z2 (by rw [w])), fun z2 => k1 ?_⟩⟩⟩
      have : U[i] = (p, c) := Prod.ext z z2
      rw [← this]; exact List.getElem_mem q
    · have : i = U.length := by omega
      subst this
      refine ⟨fun _ => k0 (fun hm => ?_), fun z => absurd (by rw [nI_leI (by omega) (by omega)]; omega) z⟩
      obtain ⟨j, hj⟩ := List.getElem?_of_mem hm
      exact hn j _ (List.getElem?_eq_some_iff.mp hj).1 hj rfl
theorem x_contains {U : List Use} {a b : Nat → Int32} (h : R2 U a b) (hl : U.length ≤ 20) (hb : ∀ e ∈ U, e.1 < 128 ∧ e.2 < 1048576) {p c : Nat} (hp : p < 128) (hc : c < 1048576) {K : Int32 → Prop} (k1 : (p, c) ∈ U → K 1) (k0 : (p, c) ∉ U → K 0) : wp_X7_contains a b (nI U.length) (nI p) (nI c) K := by
  rw [wp_X7_contains]
  exact ⟨U.length + 1, x_contains_loop h hl hb hp hc k1 k0 _ 0 (by omega) (by omega) (fun j e hj => by omega)⟩
theorem x_forgetOldest_loop {a0 b0 : Nat → Int32} {K : (Nat → Int32) → (Nat → Int32) → Int32 → Prop} {cnt : Int32} (k : ∀ a' b', (∀ j, j < 19 → a' j = a0 (j + 1) ∧ b' j = b0 (j + 1)) → K a' b' 19) : ∀ (n i : Nat) (a b : Nat → Int32), i + n = 21 → 1 ≤ i → i ≤ 20 → (∀ j, j + 1 < i → a j = a0 (j + 1) ∧ b j = b0 (j + 1)) → (∀ j, i ≤ j → a j = a0 j ∧ b j = b0 j) → wpl_X7_forgetOldest_2 K n (nI i) a b cnt := by
  intro n
  induction n with
  | zero => intro i a b h1 h2 h3; omega
  | succ n ih =>
    intro i a b h1 h2 h3 hlo hhi
    rw [wpl_X7_forgetOldest_2]
    rcases Nat.lt_or_ge i 20 with q | q
    · have e1 : nI i - 1 = nI (i - 1) := pk_sub (a := i) (b := 1) (by omega)
      rw [e1]
      have v1 : vp_in (nI i) 20 := vp_in_nI q (by decide)
      have v2 : vp_in (nI (i - 1)) 20 := vp_in_nI (by omega) (by decide)
      refine ⟨fun z => absurd z (by rw [show (20 : Int32) = nI 20 from rfl, nI_leI (by decide) (by omega)]; omega), fun _ => ⟨v1, v2, fun f2 e2 => ⟨v1, v2, fun f3 e3 => ?_⟩⟩⟩
      rw [nI_clamp (by omega), nI_clamp (by omega)] at e2 e3
      rw [nI_1]
      subst e2; subst e3
      refine ih (i + 1) _ _ (by omega) (by omega) (by omega) (fun j hj => ?_) (fun j hj => ?_)
      · by_cases y : j = i - 1
        · subst y
          rw [pk_us, pk_us, show i - 1 + 1 = i by omega]
          exact hhi i (Nat.le_refl _)
        · rw [pk_un y, pk_un y]
          exact hlo j (by omega)
      · rw [pk_un (by omega), pk_un (by omega)]
        exact hhi j (by omega)
    · have : i = 20 := by omega
      subst this
      exact ⟨fun _ => k a b (fun j hj => hlo j (by omega)), fun z => absurd (by decide) z⟩
theorem x_forgetOldest {a b : Nat → Int32} {cnt : Int32} {K : (Nat → Int32) → (Nat → Int32) → Int32 → Prop} (k : ∀ a' b', (∀ j, j < 19 → a' j = a (j + 1) ∧ b' j = b (j + 1)) → K a' b' 19) : wp_X7_forgetOldest a b cnt K := by
  rw [wp_X7_forgetOldest]
  exact ⟨20, x_forgetOldest_loop k 20 1 a b (by omega) (by omega) (by omega) (fun j hj => by omega) (fun j _ => ⟨rfl, rfl⟩)⟩
/-- one more used cookie: the oldest of twenty goes -/
def addU (U : List Use) (e : Use) : List Use := (if U.length < 20 then U else U.drop 1) ++ [e]
theorem x_add {U : List Use} {a b : Nat → Int32} (h : R2 U a b) (hl : U.length ≤ 20) {p c : Nat} {K : (Nat → Int32) → (Nat → Int32) → Int32 → Prop} (k : ∀ a' b', R2 (addU U (p, c)) a' b' → K a' b' (nI (addU U (p, c)).length)) : wp_X7_add a b (nI U.length) (nI p) (nI c) K := by
  rw [wp_X7_add]
  rcases Nat.lt_or_ge U.length 20 with q | q
  · refine ⟨fun _ => ?_, fun z => absurd (by rw [show (20 : Int32) = nI 20 from rfl, nI_ltI (by omega) (by decide)]; exact q) z⟩
    have v : vp_in (nI U.length) 20 := vp_in_nI q (by decide)
    refine ⟨v, fun f2 e2 => ⟨v, fun f3 e3 => ?_⟩⟩
    rw [nI_clamp (by omega)] at e2 e3
    subst e2; subst e3
    have e : addU U (p, c) = U ++ [(p, c)] := by unfold addU; rw [if_pos q]
    rw [e] at k
    have el : nI U.length + 1 = nI (U ++ [(p, c)]).length := by rw [nI_1]; simp
    rw [el]
    exact k _ _ (h.push (e := (p, c)) rfl rfl)
  · have h20 : U.length = 20 := by omega
    refine ⟨fun z => absurd z (by rw [show (20 : Int32) = nI 20 from rfl, nI_ltI (by omega) (by decide)]; omega), fun _ => x_forgetOldest (fun a' b' h' => ?_)⟩
    have v : vp_in (19 : Int32) 20 := by unfold vp_in; decide
    have e : addU U (p, c) = U.drop 1 ++ [(p, c)] := by unfold addU; rw [if_neg (by omega)]
    have hl1 : (U.drop 1).length = 19 := by rw [List.length_drop, h20]
    refine ⟨v, fun f2 e2 => ⟨v, fun f3 e3 => ?_⟩⟩
    have hR : R2 (U.drop 1) a' b' := fun j d hj => by
      have hj2 := (List.getElem?_eq_some_iff.mp hj).1
      rw [List.getElem?_drop, Nat.add_comm] at hj
      rw [(h' j (by omega)).1, (h' j (by omega)).2]
      exact h (j + 1) d hj
    rw [e] at k
    have el : (19 : Int32) + 1 = nI (U.drop 1 ++ [(p, c)]).length := by
      rw [List.length_append, hl1]; rfl
    rw [el]
    have hp := hR.push (e := (p, c)) (x := nI p) (y := nI c) rfl rfl
    rw [hl1] at hp
    subst e2; subst e3
    exact k _ _ hp
theorem far_kept2 {L : List Use} {a b : Nat → Int32} {i k : Nat} (hk : k < i + 1) (h : ∀ (j : Nat) (e : Use), i ≤ j → L[j]? = some e → a j = nI e.1 ∧ b j = nI e.2) (x y : Int32) : ∀ (j : Nat) (e : Use), i + 1 ≤ j → L[j]? = some e → upd a k x j = nI e.1 ∧ upd b k y j = nI e.2 := by
  intro j e hj he
  rw [pk_un (by omega), pk_un (by omega)]
  exact h j e (by omega) he
theorem x_forgetStale_loop {L : List Use} {ep : Nat} (hl : L.length ≤ 20) (hb : ∀ e ∈ L, e.2 < 1048576) (he : ep < 2 ^ 30) {K : (Nat → Int32) → (Nat → Int32) → Int32 → Prop} : ∀ (n i : Nat) (M : List Use) (a b : Nat → Int32), i + n = L.length + 1 → i ≤ L.length → M.length ≤ i → R2 M a b → (∀ (j : Nat) (e : Use), i ≤ j → L[j]? = some e → a j = nI e.1 ∧ b j = nI e.2) → (∀ a' b', R2 (M ++ (L.drop i).filter (freshU ep)) a' b' → K a' b' (nI (M ++ (L.drop i).filter (freshU ep)).length)) → wpl_X7_forgetStale_4 K n (nI ep) (nI M.length) (nI i) a b (nI L.length) := by
  intro n
  induction n with
  | zero => intro i M a b h1 h2; omega
  | succ n ih =>
    intro i M a b h1 h2 hM hR hF k
    rw [wpl_X7_forgetStale_4]
    rcases Nat.lt_or_ge i L.length with q | q
    · have hi : L[i]? = some L[i] := List.getElem?_eq_getElem q
      have hm := hb _ (List.getElem_mem q)
      obtain ⟨g1, g2⟩ := hF i _ (Nat.le_refl _) hi
      have hd : L.drop i = L[i] :: L.drop (i + 1) := List.drop_eq_getElem_cons q
      have hag : ageN ep L[i].2 < 32 := Nat.mod_lt _ (by decide)
      rw [hd] at k
      refine ⟨fun z => absurd z (by rw [nI_leI (by omega) (by omega)]; omega), fun _ => ⟨vp_in_nI (by omega) (by decide), ?_⟩⟩
      rw [nI_clamp (by omega), g2]
      refine x_age hm (by omega) ?_
      rw [show (1 : Int32) = nI 1 from rfl, nI_ltI (by decide) (by omega)]
      refine ⟨fun z => ?_, fun z => ?_⟩
      · rw [List.filter_cons_of_neg (by simp only [freshU, decide_eq_true_eq]; omega)] at k
        rw [nI_add]
        exact ih (i + 1) M a b (by omega) (by omega) (by omega) hR (fun j e hj => hF j e (by omega)) k
      · rw [List.filter_cons_of_pos (by simp only [freshU, decide_eq_true_eq]; omega)] at k
        have v1 : vp_in (nI i) 20 := vp_in_nI (by omega) (by decide)
        have v2 : vp_in (nI M.length) 20 := vp_in_nI (by omega) (by decide)
        refine ⟨v1, v2, fun f4 e4 => ⟨v1, v2, fun f5 e5 => ?_⟩⟩
        rw [nI_clamp (by omega)] at e4 e5
        rw [g1] at e4
        subst e4; subst e5
        rw [nI_add, nI_add]
        have hR2 := hR.push (e := L[i]) (x := nI L[i].1) (y := nI L[i].2) rfl rfl
        have el : M.length + 1 = (M ++ [L[i]]).length := by simp
        rw [el]
        refine ih (i + 1) (M ++ [L[i]]) _ _ (by omega) (by omega) (by rw [← el]; omega) hR2 (far_kept2 (by omega) hF _ _) ?_
        rw [List.append_assoc]
        exact k
    · have : i = L.length := by omega
      subst this
      refine ⟨fun _ => ?_, fun z => absurd (by rw [nI_leI (by omega) (by omega)]; omega) z⟩
      rw [List.drop_length, List.filter_nil, List.append_nil] at k
      exact k a b hR
theorem x_forgetStale {L : List Use} {a b : Nat → Int32} {ep : Nat} (h : R2 L a b) (hl : L.length ≤ 20) (hb : ∀ e ∈ L, e.2 < 1048576) (he : ep < 2 ^ 30) {K : (Nat → Int32) → (Nat → Int32) → Int32 → Prop} (k : ∀ a' b', R2 (L.filter (freshU ep)) a' b' → K a' b' (nI (L.filter (freshU ep)).length)) : wp_X7_forgetStale a b (nI L.length) (nI ep) K := by
  rw [wp_X7_forgetStale]
  exact ⟨L.length + 1, x_forgetStale_loop hl hb he _ 0 [] a b (by omega) (by omega) (Nat.le_refl _) (fun j e hj => by simp at hj) (fun j e _ he => h j e he) k⟩
/-- time in the model: d ticks -/
theorem m_advance_loop {g e9 : Nat → Int32} {s : Int32} {hh : Int64} {t d : Nat} (hd : d ≤ 1000) (ht : t + d < 2 ^ 29) {f0 : Nat → Int32} {O : Nat → Nat} {L : List Ent} {U : List Use} (hl : L.length ≤ 4) (hl2 : U.length ≤ 20) (hb : ∀ e ∈ L, e.2.2 ≤ t ∧ t < e.2.2 + 20) (hb2 : ∀ e ∈ U, e.2 < 1048576 ∧ ageN (t / 64) e.2 ≤ 1) {K : Int32 → (Nat → Int32) → (Nat → Int32) → Int32 → (Nat → Int32) → Prop}
    (k : ∀ f', f' 0 = nI (t + d) → OM (clr O t d) f' → EM (L.filter (fun e => t + d < e.2.2 + 20)) f' → UM (U.filter (freshU ((t + d) / 64))) f' → KeepT f0 f' → K (nI (t + d)) f' g s e9) : ∀ (n i : Nat) (f : Nat → Int32), i + n = d + 1 → i ≤ d → f 0 = nI (t + i) → OM (clr O t i) f → EM (L.filter (fun e => t + i < e.2.2 + 20)) f → UM (U.filter (freshU ((t + i) / 64))) f → KeepT f0 f → wpl_X9_advance_24 hh K n (nI d) (nI i) f g s e9 := by
  intro n
  induction n with
  | zero => intro i f h1 h2; omega
  | succ n ih =>
    intro i f h1 h2 h0 hO hE hU hk
    rw [wpl_X9_advance_24]
    rcases Nat.lt_or_ge i d with q | q
    · refine ⟨fun z => absurd z (by rw [nI_leI (by omega) (by omega)]; omega), fun _ => ?_⟩
      refine m_ticks (t := t + i) (by omega) h0 hO hE hU (Nat.le_trans (List.length_filter_le _ _) hl) (Nat.le_trans (List.length_filter_le _ _) hl2) (fun e he => by have := hb e ((List.mem_filter.mp he).1); omega) (fun e he => (hb2 e ((List.mem_filter.mp he).1)).1) (fun f' g0 gO gE gU gk => ?_)
      rw [nI_1]
      refine ih (i + 1) f' (by omega) (by omega) g0 gO ?_ ?_ (hk.tr gk)
      · rw [List.filter_filter] at gE
        have e : L.filter (fun e => decide (t + i + 1 < e.2.2 + 20) && decide (t + i < e.2.2 + 20)) = L.filter (fun e => decide (t + (i + 1) < e.2.2 + 20)) := by
          apply List.filter_congr
          intro e he
          by_cases w : t + (i + 1) < e.2.2 + 20
          · rw [decide_eq_true w, decide_eq_true (show t + i + 1 < e.2.2 + 20 by omega), decide_eq_true (show t + i < e.2.2 + 20 by omega)]; rfl
          · rw [decide_eq_false w, decide_eq_false (show ¬ t + i + 1 < e.2.2 + 20 by omega)]; rfl
        rw [e] at gE; exact gE
      · by_cases h64 : (t + i + 1) % 64 = 0
        · rw [if_pos h64, List.filter_filter] at gU
          have e : U.filter (fun e => freshU ((t + i + 1) / 64) e && freshU ((t + i) / 64) e) = U.filter (freshU ((t + (i + 1)) / 64)) := by
            apply List.filter_congr
            intro e he
            have h3 := (hb2 e he).2
            have h4 := (hb2 e he).1
            unfold freshU
            have e1 : t + (i + 1) = t + i + 1 := by omega
            rw [e1]
            have hst : e.2 / 32768 < 32 := by omega
            by_cases w : ageN ((t + i + 1) / 64) e.2 ≤ 1
            · have w2 : ageN ((t + i) / 64) e.2 ≤ 1 := by
                unfold ageN at h3 w ⊢
                omega
              rw [decide_eq_true w, decide_eq_true w2]; rfl
            · rw [decide_eq_false w]; rfl
          rw [e] at gU; exact gU
        · rw [if_neg h64] at gU
          have e1 : (t + (i + 1)) / 64 = (t + i) / 64 := by omega
          rw [e1]; exact gU
    · have : i = d := by omega
      subst this
      refine ⟨fun _ => ?_, fun z => absurd (by rw [nI_leI (by omega) (by omega)]; omega) z⟩
      rw [h0]
      exact k f h0 hO hE hU hk
