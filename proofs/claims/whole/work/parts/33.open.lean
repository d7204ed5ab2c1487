/-! pure facts: openings -/
def OC (O : Nat → Nat) (a : Nat → Int32) : Prop := ∀ j, j < 16 → a j = nI (O j)
def OM (O : Nat → Nat) (f : Nat → Int32) : Prop := ∀ j, j < 16 → f (8 + j) = nI (O j)
theorem x_total_loop {O : Nat → Nat} {a : Nat → Int32} (h : OC O a) {K : Int32 → Prop} (k : K (nI (fb_sm O 16))) : ∀ (n i : Nat), i + n = 17 → i ≤ 16 → wpl_X3_total_4 a K n (nI (fb_sm O i)) (nI i) := by
  intro n
  induction n with
  | zero => intro i h1 h2; omega
  | succ n ih =>
    intro i h1 h2
    rw [wpl_X3_total_4]
    rcases Nat.lt_or_ge i 16 with q | q
    · refine ⟨fun z => absurd z (by rw [show (16 : Int32) = nI 16 from rfl, nI_leI (by decide) (by omega)]; omega), fun _ => ⟨vp_in_nI q (by decide), ?_⟩⟩
      rw [nI_clamp (by omega), h i q, nI_add, nI_1]
      exact ih (i + 1) (by omega) (by omega)
    · have : i = 16 := by omega
      subst this
      exact ⟨fun _ => k, fun z => absurd (by decide) z⟩
theorem x_total {O : Nat → Nat} {a : Nat → Int32} (h : OC O a) {K : Int32 → Prop} (k : K (nI (fb_sm O 16))) : wp_X3_total a K := by
  rw [wp_X3_total]
  exact ⟨17, x_total_loop h k 17 0 (by omega) (by omega)⟩
theorem m_load_loop {O : Nat → Nat} {f g e : Nat → Int32} {s : Int32} {hh : Int64} (h : OM O f) {K : Int32 → Prop} (k : K (nI (fb_sm O 16))) : ∀ (n i : Nat), i + n = 17 → i ≤ 16 → wpl_X9_loadNow_4 f g s e hh K n (nI (fb_sm O i)) (nI i) := by
  intro n
  induction n with
  | zero => intro i h1 h2; omega
  | succ n ih =>
    intro i h1 h2
    rw [wpl_X9_loadNow_4]
    rcases Nat.lt_or_ge i 16 with q | q
    · refine ⟨fun z => absurd z (by rw [show (16 : Int32) = nI 16 from rfl, nI_leI (by decide) (by omega)]; omega), fun _ => ?_⟩
      rw [show (8 : Int32) = nI 8 from rfl, nI_add]
      refine ⟨vp_in_nI (by omega) (by decide), ?_⟩
      rw [nI_clamp (by omega), h i q, nI_add, nI_1]
      exact ih (i + 1) (by omega) (by omega)
    · have : i = 16 := by omega
      subst this
      exact ⟨fun _ => k, fun z => absurd (by decide) z⟩
theorem m_loadNow {O : Nat → Nat} {f g e : Nat → Int32} {s : Int32} {hh : Int64} (h : OM O f) {K : Int32 → Prop} (k : K (nI (fb_sm O 16))) : wp_X9_loadNow f g s e hh K := by
  rw [wp_X9_loadNow]
  exact ⟨17, m_load_loop h k 17 0 (by omega) (by omega)⟩
/-- the difficulty of a load -/
def difN (l : Nat) : Nat := if l / 8 ≤ 6 then l / 8 else 6
theorem difN_le (l : Nat) : difN l ≤ 6 := by unfold difN; split <;> omega
theorem x_difficulty {O : Nat → Nat} {n : Nat → Int32} {r : Nat → Nat → Int32} (h : OC O (r 0)) (hb : fb_sm O 16 < 2 ^ 31) {K : Int32 → Prop} (k : K (nI (difN (fb_sm O 16)))) : wp_X6_currentDifficulty n r K := by
  rw [wp_X6_currentDifficulty]
  refine x_total h ?_
  rw [show (8 : Int32) = nI 8 from rfl, pk_div hb (by decide) (by decide), show (6 : Int32) = nI 6 from rfl]
  have e : (if nI 6 < nI (fb_sm O 16 / 8) then nI 6 else nI (fb_sm O 16 / 8)) = nI (difN (fb_sm O 16)) := by
    unfold difN
    by_cases q : fb_sm O 16 / 8 ≤ 6
    · rw [if_neg (by rw [nI_ltI (by decide) (by omega)]; omega), if_pos q]
    · rw [if_pos (by rw [nI_ltI (by decide) (by omega)]; omega), if_neg q]
  rw [e]; exact k
theorem m_difficulty {O : Nat → Nat} {f g e : Nat → Int32} {s : Int32} {hh : Int64} (h : OM O f) (hb : fb_sm O 16 < 2 ^ 31) {K : Int32 → Prop} (k : K (nI (difN (fb_sm O 16)))) : wp_X9_difficultyNow f g s e hh K := by
  rw [wp_X9_difficultyNow]
  refine m_loadNow h ?_
  rw [show (8 : Int32) = nI 8 from rfl, pk_div hb (by decide) (by decide), show (6 : Int32) = nI 6 from rfl]
  unfold difN at k
  refine ⟨fun q => ?_, fun q => ?_⟩
  · rw [nI_leI (by omega) (by decide)] at q
    rw [if_pos q] at k; exact k
  · rw [nI_leI (by omega) (by decide)] at q
    rw [if_neg q] at k; exact k
/-- one more at a place -/
def addAt (O : Nat → Nat) (p : Nat) : Nat → Nat := fun j => if j = p then O p + 1 else O j
theorem sm_addAt (O : Nat → Nat) {p n : Nat} (h : p < n) : fb_sm (addAt O p) n = fb_sm O n + 1 := by
  have e := fb_sm_upd O (O p + 1) h
  have : fb_sm (addAt O p) n = fb_sm (fun k => if k = p then O p + 1 else O k) n := rfl
  omega
theorem OC_addAt {O : Nat → Nat} {a : Nat → Int32} (h : OC O a) {p : Nat} (hp : p < 16) : OC (addAt O p) (upd a p (a p + 1)) := by
  intro j hj
  unfold addAt
  by_cases q : j = p
  · subst q
    rw [pk_us, if_pos rfl, h j hj, nI_1]
  · rw [pk_un q, if_neg q]; exact h j hj
theorem x_countAt {O : Nat → Nat} {a : Nat → Int32} (h : OC O a) {t : Nat} (ht : t < 2 ^ 31) {K : (Nat → Int32) → Prop} (k : ∀ a', OC (addAt O (t % 16)) a' → K a') : wp_X3_countAt a (nI t) K := by
  rw [wp_X3_countAt]
  refine x_floorMod (d := 16) ht (by decide) (by decide) ?_
  have hm : t % 16 < 16 := Nat.mod_lt _ (by decide)
  refine ⟨vp_in_nI hm (by decide), vp_in_nI hm (by decide), fun f2 e2 => k f2 ?_⟩
  rw [nI_clamp (by omega)] at e2
  subst e2
  exact OC_addAt h hm
/-- the slots that time clears -/
def clr (O : Nat → Nat) (t : Nat) : Nat → Nat → Nat
  | 0 => O
  | k + 1 => fun j => if j = (t + (k + 1)) % 16 then 0 else clr O t k j
theorem clr_z (O : Nat → Nat) (t j : Nat) : ∀ k, (∃ i, 1 ≤ i ∧ i ≤ k ∧ (t + i) % 16 = j) → clr O t k j = 0
  | 0, ⟨i, h1, h2, _⟩ => by omega
  | k + 1, ⟨i, h1, h2, h3⟩ => by
    show (if j = (t + (k + 1)) % 16 then 0 else clr O t k j) = 0
    by_cases q : j = (t + (k + 1)) % 16
    · rw [if_pos q]
    · rw [if_neg q]
      refine clr_z O t j k ⟨i, h1, ?_, h3⟩
      rcases Nat.lt_or_ge i (k + 1) with z | z
      · omega
      · have : i = k + 1 := by omega
        subst this; omega
theorem clr_big (O : Nat → Nat) (t : Nat) {j k : Nat} (hj : j < 16) (hk : 16 ≤ k) : clr O t k j = 0 :=
  clr_z O t j k ⟨(j + 32 - t % 16 - 1) % 16 + 1, by omega, by omega, by omega⟩
theorem clr_min (O : Nat → Nat) (t : Nat) {j k : Nat} (hj : j < 16) : clr O t (if 16 < k then 16 else k) j = clr O t k j := by
  by_cases q : 16 < k
  · rw [if_pos q, clr_big O t hj (Nat.le_refl _), clr_big O t hj (by omega)]
  · rw [if_neg q]
theorem clr_le (O : Nat → Nat) (t : Nat) : ∀ k j, clr O t k j ≤ O j
  | 0, j => Nat.le_refl _
  | k + 1, j => by
    show (if j = (t + (k + 1)) % 16 then 0 else clr O t k j) ≤ O j
    split
    · exact Nat.zero_le _
    · exact clr_le O t k j
theorem clr_sm (O : Nat → Nat) (t k n : Nat) : fb_sm (clr O t k) n ≤ fb_sm O n := fb_sm_le (fun j _ => clr_le O t k j)
theorem x_pass_loop {O : Nat → Nat} {t m : Nat} (ht : t + m + 1 < 2 ^ 31) {x2 : Int32} {K : (Nat → Int32) → Prop} (k : ∀ a', OC (clr O t m) a' → K a') : ∀ (n i : Nat) (a : Nat → Int32), i + n = m + 1 → i ≤ m → OC (clr O t i) a → wpl_X3_pass_10 K n (nI t) x2 (nI m) (nI (i + 1)) a := by
  intro n
  induction n with
  | zero => intro i a h1 h2; omega
  | succ n ih =>
    intro i a h1 h2 h
    rw [wpl_X3_pass_10]
    rcases Nat.lt_or_ge i m with q | q
    · refine ⟨fun z => absurd z (by rw [nI_ltI (by omega) (by omega)]; omega), fun _ => ?_⟩
      rw [nI_add]
      refine x_floorMod (d := 16) (by omega) (by decide) (by decide) ?_
      have hm : (t + (i + 1)) % 16 < 16 := Nat.mod_lt _ (by decide)
      refine ⟨vp_in_nI hm (by decide), fun f3 e3 => ?_⟩
      rw [nI_clamp (by omega)] at e3
      rw [nI_1]
      refine ih (i + 1) f3 (by omega) (by omega) ?_
      subst e3
      intro j hj
      show upd a ((t + (i + 1)) % 16) 0 j = nI (if j = (t + (i + 1)) % 16 then 0 else clr O t i j)
      by_cases z : j = (t + (i + 1)) % 16
      · rw [if_pos z, z, pk_us]; rfl
      · rw [if_neg z, pk_un z]; exact h j hj
    · have : i = m := by omega
      subst this
      exact ⟨fun _ => k a h, fun z => absurd (by rw [nI_ltI (by omega) (by omega)]; omega) z⟩
theorem x_pass {O : Nat → Nat} {a : Nat → Int32} (h : OC O a) {t d : Nat} (ht : t + d < 2 ^ 30) {K : (Nat → Int32) → Prop} (k : ∀ a', OC (clr O t d) a' → K a') : wp_X3_pass a (nI t) (nI d) K := by
  rw [wp_X3_pass, show (16 : Int32) = nI 16 from rfl]
  have e : (if nI 16 < nI d then nI 16 else nI d) = nI (if 16 < d then 16 else d) := by
    by_cases q : 16 < d
    · rw [if_pos q, if_pos ((nI_ltI (by decide) (by omega)).mpr q)]
    · rw [if_neg q, if_neg (fun z => q ((nI_ltI (by decide) (by omega)).mp z))]
  rw [e]
  have hb : (if 16 < d then 16 else d) ≤ d := by split <;> omega
  refine ⟨(if 16 < d then 16 else d) + 1, x_pass_loop (O := O) (by omega) (fun a' h' => k a' (fun j hj => ?_)) _ 0 a (by omega) (by omega) h⟩
  rw [h' j hj, clr_min O t hj]
