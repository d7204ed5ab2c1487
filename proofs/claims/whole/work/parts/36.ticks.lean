/-! pure facts: the model's ticks -/
abbrev Use : Type := Nat × Nat
def UM (U : List Use) (f : Nat → Int32) : Prop := f 4 = nI U.length ∧ ∀ (j : Nat) (e : Use), U[j]? = some e → f (168 + 3 * j) = nI e.2 ∧ f (168 + 3 * j + 1) = nI (e.1 / 8) ∧ f (168 + 3 * j + 2) = nI (e.1 % 8)
theorem sub_one (x : Int32) : x - 1 = x + (-1) := by grind
theorem er_take {α : Type} {M : List α} {c : Nat} (h : c < M.length) : (M.eraseIdx c).take c = M.take c ∧ (M.eraseIdx c).drop c = M.drop (c + 1) := by
  rw [List.eraseIdx_eq_take_drop_succ]
  have hl : (M.take c).length = c := by rw [List.length_take]; omega
  exact ⟨List.take_left' hl, List.drop_left' hl⟩
theorem take_succ_at {α : Type} {M : List α} {c : Nat} (h : c < M.length) : M.take (c + 1) = M.take c ++ [M[c]] := by
  rw [List.take_succ, List.getElem?_eq_getElem h]; rfl
theorem filt_keep {α : Type} {M : List α} {c : Nat} (h : c < M.length) {P : α → Bool} (hp : P M[c] = true) : (M.take (c + 1)).filter P ++ M.drop (c + 1) = (M.take c).filter P ++ M.drop c := by
  rw [take_succ_at h, List.filter_append, List.filter_cons_of_pos hp, List.filter_nil, List.append_assoc, List.drop_eq_getElem_cons h]
  rfl
theorem filt_drop {α : Type} {M : List α} {c : Nat} (h : c < M.length) {P : α → Bool} (hp : ¬ P M[c] = true) : (M.take (c + 1)).filter P ++ M.drop (c + 1) = ((M.eraseIdx c).take c).filter P ++ (M.eraseIdx c).drop c := by
  rw [take_succ_at h, List.filter_append, List.filter_cons_of_neg hp, List.filter_nil, List.append_nil, (er_take h).1, (er_take h).2]
theorem m_ticksE_loop {g e9 : Nat → Int32} {s : Int32} {hh : Int64} {t : Nat} (ht : t < 2 ^ 30) {K : (Nat → Int32) → Prop} : ∀ (c : Nat) (M : List Ent) (f : Nat → Int32), c ≤ M.length → M.length ≤ 4 → (∀ e ∈ M, e.2.2 ≤ t) → EM M f → f 0 = nI t → (∀ f', EM ((M.take c).filter (fun e => t < e.2.2 + 20) ++ M.drop c) f' → SameOut 24 40 3 f f' → ∃ n8 : Nat, wpl_X9_ticks_90 g s e9 hh K n8 ((f' 4) - 1) f') → wpl_X9_ticks_37 g s e9 hh K (c + 1) (nI c + (-1)) f := by
  intro c
  induction c with
  | zero =>
    intro M f h1 h2 hb hE h0 k
    rw [wpl_X9_ticks_37]
    refine ⟨fun _ => k f ?_ SameOut.rf, fun z => absurd (by decide) z⟩
    rw [List.take_zero, List.filter_nil, List.nil_append, List.drop_zero]; exact hE
  | succ c ih =>
    intro M f h1 h2 hb hE h0 k
    rw [wpl_X9_ticks_37, pk_m1]
    have hc : c < M.length := h1
    have hi : M[c]? = some M[c] := List.getElem?_eq_getElem hc
    have hm := hb _ (List.getElem_mem hc)
    obtain ⟨-, -, -, g4⟩ := hE.2 c _ hi
    refine ⟨fun z => absurd z (nI_pos (by omega)), fun _ => ?_⟩
    rw [show (24 : Int32) = nI 24 from rfl, show (4 : Int32) = nI 4 from rfl, show (3 : Int32) = nI 3 from rfl, show (20 : Int32) = nI 20 from rfl, pk_mul, nI_add, nI_add]
    refine ⟨vp_in_nI (by omega) (by decide), ?_⟩
    rw [nI_clamp (by omega), g4, h0, pk_sub hm, nI_ltI (by omega) (by decide)]
    refine ⟨fun z => ?_, fun z => ?_⟩
    · refine ih M f (by omega) h2 hb hE h0 (fun f' hE' hs => k f' ?_ hs)
      rw [filt_keep hc (by simp only [decide_eq_true_eq]; omega)]; exact hE'
    · refine m_dropE hE h2 hc (fun f1 hE1 hs1 => ?_)
      have hl1 : (M.eraseIdx c).length = M.length - 1 := by rw [List.length_eraseIdx, if_pos hc]
      refine ih (M.eraseIdx c) f1 (by omega) (by omega) (fun e he => hb e (List.mem_of_mem_eraseIdx he)) hE1 ?_ (fun f' hE' hs => k f' ?_ (hs1.tr hs))
      · rw [hs1 0 (by decide) (by omega)]; exact h0
      · rw [filt_drop hc (by simp only [decide_eq_true_eq]; omega)]; exact hE'
theorem m_dropU {U : List Use} {f g e : Nat → Int32} {s : Int32} {hh : Int64} (h : UM U f) (hl : U.length ≤ 20) {k : Nat} (hk : k < U.length) {K : (Nat → Int32) → Prop} (kk : ∀ f', UM (U.eraseIdx k) f' → SameOut 168 228 4 f f' → K f') : wp_X9_drops f g s e hh 168 3 4 (nI k) K := by
  refine m_drops (part := 168) (w := 3) (m := 4) (len := U.length) (by decide) (by omega) hk (by decide) h.1 (fun f' h1 h2 h3 => kk f' ⟨?_, fun j d hj => ?_⟩ (fun j hj hn => h2 j hj (fun z => hn ⟨by omega, by omega⟩)))
  · rw [h1, List.length_eraseIdx, if_pos hk]
  · rcases Nat.lt_or_ge j k with q | q
    · rw [List.getElem?_eraseIdx_of_lt q] at hj
      have := h.2 j d hj
      rw [h2 _ (by omega) (by omega), h2 _ (by omega) (by omega), h2 _ (by omega) (by omega)]
      exact this
    · rw [List.getElem?_eraseIdx_of_ge q] at hj
      have hj2 := (List.getElem?_eq_some_iff.mp hj).1
      have := h.2 (j + 1) d hj
      rw [h3 _ (by omega) (by omega), h3 _ (by omega) (by omega), h3 _ (by omega) (by omega)]
      have e1 : 168 + 3 * j + 3 = 168 + 3 * (j + 1) := by omega
      have e2 : 168 + 3 * j + 1 + 3 = 168 + 3 * (j + 1) + 1 := by omega
      have e3 : 168 + 3 * j + 2 + 3 = 168 + 3 * (j + 1) + 2 := by omega
      rw [e1, e2, e3]
      exact this
def freshU (ep : Nat) : Use → Bool := fun e => decide (ageN ep e.2 ≤ 1)
theorem m_ticksU_loop {g e9 : Nat → Int32} {s : Int32} {hh : Int64} {t : Nat} (ht : t < 2 ^ 30) (h64 : t % 64 = 0) {K : (Nat → Int32) → Prop} : ∀ (c : Nat) (M : List Use) (f : Nat → Int32), c ≤ M.length → M.length ≤ 20 → (∀ e ∈ M, e.2 < 1048576) → UM M f → f 0 = nI t → (∀ f', UM ((M.take c).filter (freshU (t / 64)) ++ M.drop c) f' → SameOut 168 228 4 f f' → K f') → wpl_X9_ticks_90 g s e9 hh K (c + 1) (nI c + (-1)) f := by
  intro c
  induction c with
  | zero =>
    intro M f h1 h2 hb hE h0 k
    rw [wpl_X9_ticks_90]
    refine ⟨fun _ => k f ?_ SameOut.rf, fun z => absurd (by decide) z⟩
    rw [List.take_zero, List.filter_nil, List.nil_append, List.drop_zero]; exact hE
  | succ c ih =>
    intro M f h1 h2 hb hE h0 k
    rw [wpl_X9_ticks_90, pk_m1]
    have hc : c < M.length := h1
    have hi : M[c]? = some M[c] := List.getElem?_eq_getElem hc
    have hm := hb _ (List.getElem_mem hc)
    obtain ⟨g1, -, -⟩ := hE.2 c _ hi
    have hag : ageN (t / 64) M[c].2 < 32 := Nat.mod_lt _ (by decide)
    refine ⟨fun z => absurd z (nI_pos (by omega)), fun _ => ⟨fun z => absurd ?_ z, fun _ => ?_⟩⟩
    · rw [h0, show (64 : Int32) = nI 64 from rfl, jrem_nI (by omega) (by decide) (by decide), h64]; rfl
    · have ev : (168 : Int32) + 3 * nI c = nI (168 + 3 * c) := by
        rw [show (168 : Int32) = nI 168 from rfl, show (3 : Int32) = nI 3 from rfl, pk_mul, nI_add]
      rw [ev]
      refine ⟨vp_in_nI (by omega) (by decide), ?_⟩
      rw [nI_clamp (by omega), g1]
      refine m_ageOf h0 (by omega) hm ?_
      rw [show (1 : Int32) = nI 1 from rfl, nI_leI (by omega) (by decide)]
      refine ⟨fun z => ?_, fun z => ?_⟩
      · refine ih M f (by omega) h2 hb hE h0 (fun f' hE' hs => k f' ?_ hs)
        rw [filt_keep hc (by simp only [freshU, decide_eq_true_eq]; omega)]; exact hE'
      · refine m_dropU hE h2 hc (fun f1 hE1 hs1 => ?_)
        have hl1 : (M.eraseIdx c).length = M.length - 1 := by rw [List.length_eraseIdx, if_pos hc]
        refine ih (M.eraseIdx c) f1 (by omega) (by omega) (fun e he => hb e (List.mem_of_mem_eraseIdx he)) hE1 ?_ (fun f' hE' hs => k f' ?_ (hs1.tr hs))
        · rw [hs1 0 (by decide) (by omega)]; exact h0
        · rw [filt_drop hc (by simp only [freshU, decide_eq_true_eq]; omega)]; exact hE'
/-- what time leaves alone in the model's row -/
def KeepT (f f' : Nat → Int32) : Prop := ∀ j, (j = 1 ∨ j = 2 ∨ j = 5 ∨ j = 6 ∨ j = 7 ∨ (40 ≤ j ∧ j < 168) ∨ 228 ≤ j) → f' j = f j
theorem KeepT.rf {f : Nat → Int32} : KeepT f f := fun _ _ => rfl
theorem KeepT.tr {f f' f'' : Nat → Int32} (h : KeepT f f') (h2 : KeepT f' f'') : KeepT f f'' := fun j hj => (h2 j hj).trans (h j hj)
theorem EM.out {L : List Ent} {f f' : Nat → Int32} (h : EM L f) (hl : L.length ≤ 4) (h3 : f' 3 = f 3) (hs : ∀ j, 24 ≤ j → j < 40 → f' j = f j) : EM L f' := by
  refine ⟨by rw [h3]; exact h.1, fun j e hj => ?_⟩
  have := (List.getElem?_eq_some_iff.mp hj).1
  rw [hs _ (by omega) (by omega), hs _ (by omega) (by omega), hs _ (by omega) (by omega), hs _ (by omega) (by omega)]
  exact h.2 j e hj
theorem UM.out {U : List Use} {f f' : Nat → Int32} (h : UM U f) (hl : U.length ≤ 20) (h3 : f' 4 = f 4) (hs : ∀ j, 168 ≤ j → j < 228 → f' j = f j) : UM U f' := by
  refine ⟨by rw [h3]; exact h.1, fun j e hj => ?_⟩
  have := (List.getElem?_eq_some_iff.mp hj).1
  rw [hs _ (by omega) (by omega), hs _ (by omega) (by omega), hs _ (by omega) (by omega)]
  exact h.2 j e hj
theorem OM.out {O : Nat → Nat} {f f' : Nat → Int32} (h : OM O f) (hs : ∀ j, 8 ≤ j → j < 24 → f' j = f j) : OM O f' := fun j hj => by
  rw [hs _ (by omega) (by omega)]; exact h j hj
theorem m_ticks {f g e9 : Nat → Int32} {s : Int32} {hh : Int64} {t : Nat} (ht : t + 1 < 2 ^ 30) {O : Nat → Nat} {L : List Ent} {U : List Use} (h0 : f 0 = nI t) (hO : OM O f) (hE : EM L f) (hU : UM U f) (hl : L.length ≤ 4) (hl2 : U.length ≤ 20) (hb : ∀ e ∈ L, e.2.2 ≤ t) (hb2 : ∀ e ∈ U, e.2 < 1048576) {K : (Nat → Int32) → Prop}
    (k : ∀ f', f' 0 = nI (t + 1) → OM (fun j => if j = (t + 1) % 16 then 0 else O j) f' → EM (L.filter (fun e => t + 1 < e.2.2 + 20)) f' → UM (if (t + 1) % 64 = 0 then U.filter (freshU ((t + 1) / 64)) else U) f' → KeepT f f' → K f') : wp_X9_ticks f g s e9 hh K := by
  rw [wp_X9_ticks]
  intro f1 e1
  have h1 : f1 0 = nI (t + 1) := by rw [e1, pk_us, h0, nI_1]
  have h1o : ∀ j, j ≠ 0 → f1 j = f j := fun j hj => by rw [e1, pk_un hj]
  have hm : (t + 1) % 16 < 16 := Nat.mod_lt _ (by decide)
  rw [h1, show (16 : Int32) = nI 16 from rfl, show (8 : Int32) = nI 8 from rfl, jrem_nI (by omega) (by decide) (by decide), nI_add]
  refine ⟨vp_in_nI (by omega) (by decide), fun f2 e2 => ?_⟩
  rw [nI_clamp (by omega)] at e2
  have h2o : ∀ j, j ≠ 0 → j ≠ 8 + (t + 1) % 16 → f2 j = f j := fun j hj hj2 => by rw [e2, pk_un hj2]; exact h1o j hj
  have h20 : f2 0 = nI (t + 1) := by rw [e2, pk_un (by omega)]; exact h1
  have hO2 : OM (fun j => if j = (t + 1) % 16 then 0 else O j) f2 := fun j hj => by
    show f2 (8 + j) = nI (if j = (t + 1) % 16 then 0 else O j)
    by_cases q : j = (t + 1) % 16
    · rw [if_pos q, e2, q, pk_us]; rfl
    · rw [if_neg q, h2o _ (by omega) (by omega)]; exact hO j hj
  have hE2 : EM L f2 := hE.out hl (h2o 3 (by decide) (by omega)) (fun j _ _ => h2o j (by omega) (by omega))
  have hU2 : UM U f2 := hU.out hl2 (h2o 4 (by decide) (by omega)) (fun j _ _ => h2o j (by omega) (by omega))
  rw [hE2.1, sub_one]
  refine ⟨L.length + 1, m_ticksE_loop (t := t + 1) ht L.length L f2 (Nat.le_refl _) hl (fun e he => by have := hb e he; omega) hE2 h20 (fun f3 hE3 hs3 => ?_)⟩
  rw [List.take_length, List.drop_length, List.append_nil] at hE3
  have h30 : f3 0 = nI (t + 1) := by rw [hs3 0 (by decide) (by omega)]; exact h20
  have hU3 : UM U f3 := hU2.out hl2 (hs3 4 (by decide) (by omega)) (fun j _ _ => hs3 j (by omega) (by omega))
  have hO3 := hO2.out (f' := f3) (fun j _ _ => hs3 j (by omega) (by omega))
  have hk3 : KeepT f f3 := fun j hj => by rw [hs3 j (by omega) (by omega)]; exact h2o j (by omega) (by omega)
  have hlE : (L.filter (fun e => decide (t + 1 < e.2.2 + 20))).length ≤ 4 := Nat.le_trans (List.length_filter_le _ _) hl
  rw [hU3.1, sub_one]
  by_cases h64 : (t + 1) % 64 = 0
  · rw [if_pos h64] at k
    refine ⟨U.length + 1, m_ticksU_loop (t := t + 1) ht h64 U.length U f3 (Nat.le_refl _) hl2 hb2 hU3 h30 (fun f4 hU4 hs4 => ?_)⟩
    rw [List.take_length, List.drop_length, List.append_nil] at hU4
    exact k f4 (by rw [hs4 0 (by decide) (by omega)]; exact h30) (hO3.out (fun j _ _ => hs4 j (by omega) (by omega))) (hE3.out hlE (hs4 3 (by decide) (by omega)) (fun j _ _ => hs4 j (by omega) (by omega))) hU4 (hk3.tr (fun j hj => hs4 j (by omega) (by omega)))
  · rw [if_neg h64] at k
    refine ⟨1, ?_⟩
    rw [wpl_X9_ticks_90]
    have fin := k f3 h30 hO3 hE3 hU3 hk3
    refine ⟨fun _ => fin, fun _ => ⟨fun _ => fin, fun z => absurd ?_ h64⟩⟩
    rw [h30, show (64 : Int32) = nI 64 from rfl, jrem_nI (by omega) (by decide) (by decide)] at z
    exact (nI_eq (by omega) (by decide)).mp z
