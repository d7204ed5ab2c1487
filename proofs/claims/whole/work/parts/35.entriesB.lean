/-! pure facts: keeping an entry; the model's rows -/
theorem R3.set {M : List Ent} {a b c : Nat → Int32} (h : R3 M a b c) {e : Ent} {i : Nat} (hi : i < M.length) {x y z : Int32} (hx : x = nI e.1) (hy : y = nI e.2.1) (hz : z = nI e.2.2) : R3 (M.set i e) (upd a i x) (upd b i y) (upd c i z) := by
  intro j d hj
  by_cases q : j = i
  · subst q
    rw [List.getElem?_set_self hi] at hj
    cases hj
    rw [pk_us, pk_us, pk_us]
    exact ⟨hx, hy, hz⟩
  · rw [List.getElem?_set_ne (Ne.symm q)] at hj
    rw [pk_un q, pk_un q, pk_un q]
    exact h j d hj
theorem x_keep {L : List Ent} {a b c : Nat → Int32} (h : R3 L a b c) (hl : L.length ≤ 4) (hb : ∀ e ∈ L, e.1 < 128) {p ck t m : Nat} (hp : p < 128) {may : Int32} (hm : may = nI m) (hm1 : m ≤ 1) {K : (Nat → Int32) → (Nat → Int32) → (Nat → Int32) → Int32 → Prop}
    (k1 : ∀ (i : Nat) (e : Ent), L[i]? = some e → e.1 = p → ∀ a' b' c', R3 (L.set i (p, ck, t)) a' b' c' → K a' b' c' (nI L.length))
    (k2 : (∀ e ∈ L, e.1 ≠ p) → (m = 0 ∨ L.length = 4) → K a b c (nI L.length))
    (k3 : (∀ e ∈ L, e.1 ≠ p) → m = 1 → L.length < 4 → ∀ a' b' c', R3 (L ++ [(p, ck, t)]) a' b' c' → K a' b' c' (nI (L ++ [(p, ck, t)]).length)) : wp_X1_keep a b c (nI L.length) (nI p) (nI ck) (nI t) may K := by
  rw [wp_X1_keep]
  refine x_find h hl hb hp (fun i e hi he => ?_) (fun hn => ?_)
  · have hi4 := (List.getElem?_eq_some_iff.mp hi).1
    have v1 : vp_in (nI i) 4 := vp_in_nI (by omega) (by decide)
    refine ⟨fun _ => ⟨v1, fun f3 e3 => ⟨v1, fun f4 e4 => ⟨v1, fun f5 e5 => ?_⟩⟩⟩, fun z => absurd (nI_pos' (by omega)) z⟩
    rw [nI_clamp (by omega)] at e3 e4 e5
    subst e3; subst e4; subst e5
    exact k1 i e hi he _ _ _ (h.set hi4 rfl rfl rfl)
  · refine ⟨fun z => absurd z (by decide), fun _ => ⟨fun z => ?_, fun z => ?_⟩⟩
    · subst hm
      refine k2 hn (Or.inl ?_)
      exact (nI_eq (by omega) (by decide)).mp z
    · subst hm
      have h1 : m = 1 := by
        rcases Nat.lt_or_ge m 1 with q | q
        · have : m = 0 := by omega
          subst this; exact absurd rfl z
        · omega
      refine ⟨fun y => ?_, fun y => ?_⟩
      · rw [show (4 : Int32) = nI 4 from rfl, nI_ltI (by omega) (by decide)] at y
        have v1 : vp_in (nI L.length) 4 := vp_in_nI (by omega) (by decide)
        refine ⟨v1, fun f3 e3 => ⟨v1, fun f4 e4 => ⟨v1, fun f5 e5 => ?_⟩⟩⟩
        rw [nI_clamp (by omega)] at e3 e4 e5
        subst e3; subst e4; subst e5
        have el : nI L.length + 1 = nI (L ++ [(p, ck, t)]).length := by rw [nI_1]; simp
        rw [el]
        exact k3 hn h1 y _ _ _ (h.push (e := (p, ck, t)) rfl rfl rfl)
      · rw [show (4 : Int32) = nI 4 from rfl, nI_ltI (by omega) (by decide)] at y
        exact k2 hn (Or.inr (by omega))
theorem x_holds {L : List Ent} {a b c : Nat → Int32} (h : R3 L a b c) (hl : L.length ≤ 4) (hb : ∀ e ∈ L, e.1 < 128 ∧ e.2.1 < 1048576) {p ck : Nat} (hp : p < 128) (hck : ck < 1048576) {K : Int32 → Prop}
    (k1 : ∀ (i : Nat) (e : Ent), L[i]? = some e → e.1 = p → e.2.1 = ck → K 1)
    (k0 : ∀ (i : Nat) (e : Ent), L[i]? = some e → e.1 = p → e.2.1 ≠ ck → K 0)
    (k2 : (∀ e ∈ L, e.1 ≠ p) → K 0) : wp_X1_holds a b c (nI L.length) (nI p) (nI ck) K := by
  rw [wp_X1_holds]
  refine x_find h hl (fun e he => (hb e he).1) hp (fun i e hi he => ?_) (fun hn => ?_)
  · have hi4 := (List.getElem?_eq_some_iff.mp hi).1
    have hm := hb e (List.mem_of_getElem? hi)
    refine ⟨fun z => absurd z (nI_pos (by omega)), fun _ => ⟨vp_in_nI (by omega) (by decide), ?_⟩⟩
    rw [nI_clamp (by omega), (h i e hi).2.1, nI_eq (by omega) (by omega)]
    exact ⟨fun z => k0 i e hi he z, fun z => k1 i e hi he z⟩
  · exact ⟨fun _ => k2 hn, fun z => absurd (by decide) z⟩
theorem x_ageOf {L : List Ent} {a b c : Nat → Int32} (h : R3 L a b c) (hl : L.length ≤ 4) (hb : ∀ e ∈ L, e.1 < 128) {p t : Nat} (hp : p < 128) {K : Int32 → Prop}
    (k1 : ∀ (i : Nat) (e : Ent), L[i]? = some e → e.1 = p → K (nI t - nI e.2.2)) (k2 : (∀ e ∈ L, e.1 ≠ p) → K (-1)) : wp_X1_ageOf a b c (nI L.length) (nI p) (nI t) K := by
  rw [wp_X1_ageOf]
  refine x_find h hl hb hp (fun i e hi he => ?_) (fun hn => ?_)
  · have hi4 := (List.getElem?_eq_some_iff.mp hi).1
    refine ⟨fun z => absurd z (nI_pos (by omega)), fun _ => ⟨vp_in_nI (by omega) (by decide), ?_⟩⟩
    rw [nI_clamp (by omega), (h i e hi).2.2]
    exact k1 i e hi he
  · exact ⟨fun _ => k2 hn, fun z => absurd (by decide) z⟩
/-- the model's dropping of row k out of 'len' rows of width w that begin at 'part' -/
theorem m_drops_loop {g e : Nat → Int32} {s : Int32} {hh : Int64} {part w m len kk : Nat} (hm : m < part) (hlen : part + w * len ≤ 404) (hk : kk < len) (hw : 0 < w) {x4 : Int32} {f0 : Nat → Int32} {K : (Nat → Int32) → Prop}
    (k : ∀ f', f' m = nI (len - 1) → (∀ j, j ≠ m → ¬ (part + w * kk ≤ j ∧ j < part + w * (len - 1)) → f' j = f0 j) → (∀ j, part + w * kk ≤ j → j < part + w * (len - 1) → f' j = f0 (j + w)) → K f') :
    ∀ (n i : Nat) (f : Nat → Int32), i + n = part + w * (len - 1) + 1 → part + w * kk ≤ i → i ≤ part + w * (len - 1) → f m = nI len → (∀ j, j ≠ m → ¬ (part + w * kk ≤ j ∧ j < i) → f j = f0 j) → (∀ j, part + w * kk ≤ j → j < i → f j = f0 (j + w)) → wpl_X9_drops_8 g s e hh K n (nI part) (nI w) (nI m) x4 (nI i) f := by
  have hwl : w * len = w * (len - 1) + w := by
    obtain ⟨l, rfl⟩ : ∃ l, len = l + 1 := ⟨len - 1, by omega⟩
    rw [Nat.add_sub_cancel, Nat.mul_succ]
  intro n
  induction n with
  | zero => intro i f h1 h2 h3; omega
  | succ n ih =>
    intro i f h1 h2 h3 hfm ho hi
    rw [wpl_X9_drops_8, nI_clamp (by omega), hfm]
    have e1 : nI len - 1 = nI (len - 1) := pk_sub (a := len) (b := 1) (by omega)
    rw [e1, pk_mul, nI_add]
    have vm : vp_in (nI m) 404 := vp_in_nI (by omega) (by decide)
    refine ⟨vm, fun q => ⟨vm, vm, fun f2 e2 => ?_⟩, fun q => ?_⟩
    · rw [nI_leI (by omega) (by omega)] at q
      have ie : i = part + w * (len - 1) := by omega
      subst e2
      refine k _ pk_us (fun j hj hn => ?_) (fun j hj hn => ?_)
      · rw [pk_un hj]
        exact ho j hj (fun z => hn ⟨z.1, by omega⟩)
      · rw [pk_un (by omega)]
        exact hi j hj (by omega)
    · rw [nI_leI (by omega) (by omega)] at q
      rw [nI_add]
      refine ⟨vp_in_nI (by omega) (by decide), vp_in_nI (by omega) (by decide), fun f3 e3 => ?_⟩
      rw [nI_clamp (by omega), nI_clamp (by omega)] at e3
      rw [nI_1]
      subst e3
      refine ih (i + 1) _ (by omega) (by omega) (by omega) ?_ (fun j hj hn => ?_) (fun j hj hn => ?_)
      · rw [pk_un (by omega)]; exact hfm
      · rw [pk_un (fun z => hn ⟨by omega, by omega⟩)]
        exact ho j hj (fun z => hn ⟨z.1, by omega⟩)
      · rcases Nat.lt_or_ge j i with y | y
        · rw [pk_un (by omega)]; exact hi j hj y
        · have : j = i := by omega
          subst this
          rw [pk_us]
          exact ho (j + w) (by omega) (fun z => by omega)
theorem m_drops {f g e : Nat → Int32} {s : Int32} {hh : Int64} {part w m len kk : Nat} (hm : m < part) (hlen : part + w * len ≤ 404) (hk : kk < len) (hw : 0 < w) (hf : f m = nI len) {K : (Nat → Int32) → Prop}
    (k : ∀ f', f' m = nI (len - 1) → (∀ j, j ≠ m → ¬ (part + w * kk ≤ j ∧ j < part + w * (len - 1)) → f' j = f j) → (∀ j, part + w * kk ≤ j → j < part + w * (len - 1) → f' j = f (j + w)) → K f') : wp_X9_drops f g s e hh (nI part) (nI w) (nI m) (nI kk) K := by
  rw [wp_X9_drops, pk_mul, nI_add]
  have hle : w * kk ≤ w * (len - 1) := Nat.mul_le_mul_left w (by omega)
  exact ⟨part + w * (len - 1) + 1 - (part + w * kk), m_drops_loop hm hlen hk hw k _ (part + w * kk) f (by omega) (Nat.le_refl _) (by omega) hf (fun j _ _ => rfl) (fun j h1 h2 => by omega)⟩
/-- what the model's row says outside the entries, between two rows -/
def SameOut (a b m : Nat) (f f' : Nat → Int32) : Prop := ∀ j, j ≠ m → ¬ (a ≤ j ∧ j < b) → f' j = f j
theorem SameOut.rf {a b m : Nat} {f : Nat → Int32} : SameOut a b m f f := fun _ _ _ => rfl
theorem SameOut.tr {a b m : Nat} {f f' f'' : Nat → Int32} (h : SameOut a b m f f') (h2 : SameOut a b m f' f'') : SameOut a b m f f'' := fun j h3 h4 => (h2 j h3 h4).trans (h j h3 h4)
theorem m_dropE {L : List Ent} {f g e : Nat → Int32} {s : Int32} {hh : Int64} (h : EM L f) (hl : L.length ≤ 4) {k : Nat} (hk : k < L.length) {K : (Nat → Int32) → Prop} (kk : ∀ f', EM (L.eraseIdx k) f' → SameOut 24 40 3 f f' → K f') : wp_X9_drops f g s e hh 24 4 3 (nI k) K := by
  refine m_drops (part := 24) (w := 4) (m := 3) (len := L.length) (by decide) (by omega) hk (by decide) h.1 (fun f' h1 h2 h3 => kk f' ⟨?_, fun j d hj => ?_⟩ (fun j hj hn => h2 j hj (fun z => hn ⟨by omega, by omega⟩)))
  · rw [h1, List.length_eraseIdx, if_pos hk]
  · rcases Nat.lt_or_ge j k with q | q
    · rw [List.getElem?_eraseIdx_of_lt q] at hj
      have := h.2 j d hj
      rw [h2 _ (by omega) (by omega), h2 _ (by omega) (by omega), h2 _ (by omega) (by omega), h2 _ (by omega) (by omega)]
      exact this
    · rw [List.getElem?_eraseIdx_of_ge q] at hj
      have hj2 := (List.getElem?_eq_some_iff.mp hj).1
      have := h.2 (j + 1) d hj
      rw [h3 _ (by omega) (by omega), h3 _ (by omega) (by omega), h3 _ (by omega) (by omega), h3 _ (by omega) (by omega)]
      have e1 : 24 + 4 * j + 4 = 24 + 4 * (j + 1) := by omega
      have e2 : 24 + 4 * j + 1 + 4 = 24 + 4 * (j + 1) + 1 := by omega
      have e3 : 24 + 4 * j + 2 + 4 = 24 + 4 * (j + 1) + 2 := by omega
      have e4 : 24 + 4 * j + 3 + 4 = 24 + 4 * (j + 1) + 3 := by omega
      rw [e1, e2, e3, e4]
      exact this
