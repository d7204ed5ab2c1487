/-! the case of the law: digest -/
def mx (h : Int64) (x : Int32) : Int64 := 31 * h + x.toInt64
def mxs (w : Nat → Int32) : Nat → Int64 → Int64
  | 0, h => h
  | n + 1, h => mx (mxs w n h) (w n)
theorem mxs_cong {v w : Nat → Int32} {h : Int64} : ∀ {n : Nat}, (∀ j, j < n → v j = w j) → mxs v n h = mxs w n h
  | 0, _ => rfl
  | n + 1, e => by
    show mx (mxs v n h) (v n) = mx (mxs w n h) (w n)
    rw [mxs_cong (fun j hj => e j (by omega)), e n (by omega)]
theorem x_mix {h : Int64} {x : Int32} {K : Int64 → Prop} (k : K (mx h x)) : wp_X8_mix h (Int32.toInt64 x) K := k
theorem m_mix {f g e : Nat → Int32} {s : Int32} {h : Int64} {x : Int32} {K : Int64 → Prop} (k : K (mx h x)) : wp_X9_mix f g s e h x K := k
def dE (t : Nat) (L : List Ent) (h : Int64) : Int64 := L.foldl (fun h e => mx (mx (mx (mx h (nI (e.1 / 8))) (nI (e.1 % 8))) (nI e.2.1)) (nI t - nI e.2.2)) h
def dU (U : List Use) (h : Int64) : Int64 := U.foldl (fun h e => mx h (nI e.2)) h
theorem dE_succ {t : Nat} {L : List Ent} {h : Int64} {i : Nat} (q : i < L.length) : dE t (L.take (i + 1)) h = mx (mx (mx (mx (dE t (L.take i) h) (nI (L[i].1 / 8))) (nI (L[i].1 % 8))) (nI L[i].2.1)) (nI t - nI L[i].2.2) := by
  unfold dE
  rw [take_succ_at q, List.foldl_append]
  rfl
theorem dU_succ {U : List Use} {h : Int64} {i : Nat} (q : i < U.length) : dU (U.take (i + 1)) h = mx (dU (U.take i) h) (nI U[i].2) := by
  unfold dU
  rw [take_succ_at q, List.foldl_append]
  rfl
theorem x_dE_loop {L : List Ent} {a b c : Nat → Int32} {t : Nat} {h0 x1 : Int64} (h : R3 L a b c) (hl : L.length ≤ 4) (hb : ∀ e ∈ L, e.1 < 128) {K : Int64 → Prop} (k : K (dE t L h0)) : ∀ (n i : Nat), i + n = L.length + 1 → i ≤ L.length → wpl_X1_mixInto_14 a b c (nI L.length) K n x1 (nI t) (dE t (L.take i) h0) (nI i) := by
  intro n
  induction n with
  | zero => intro i h1 h2; omega
  | succ n ih =>
    intro i h1 h2
    rw [wpl_X1_mixInto_14]
    rcases Nat.lt_or_ge i L.length with q | q
    · have hi : L[i]? = some L[i] := List.getElem?_eq_getElem q
      have hm := hb _ (List.getElem_mem q)
      obtain ⟨g1, g2, g3⟩ := h i _ hi
      have v : vp_in (nI i) 4 := vp_in_nI (by omega) (by decide)
      refine ⟨fun z => absurd z (by rw [nI_leI (by omega) (by omega)]; omega), fun _ => ⟨v, x_mix ⟨v, x_mix ⟨v, x_mix ⟨v, x_mix ?_⟩⟩⟩⟩⟩
      rw [nI_clamp (by omega), g1, g2, g3, show nI L[i].1 / 8 = nI (L[i].1 / 8) from pk_div (by omega) (by decide) (by decide), show jrem (nI L[i].1) 8 = nI (L[i].1 % 8) from jrem_nI (by omega) (by decide) (by decide), nI_1, ← dE_succ q]
      exact ih (i + 1) (by omega) (by omega)
    · have : i = L.length := by omega
      subst this
      refine ⟨fun _ => ?_, fun z => absurd (by rw [nI_leI (by omega) (by omega)]; omega) z⟩
      rw [List.take_length]; exact k
theorem x_dU_loop {U : List Use} {a b : Nat → Int32} {h0 x1 : Int64} (h : R2 U a b) (hl : U.length ≤ 20) {K : Int64 → Prop} (k : K (dU U h0)) : ∀ (n i : Nat), i + n = U.length + 1 → i ≤ U.length → wpl_X7_mixInto_13 a b (nI U.length) K n x1 (dU (U.take i) h0) (nI i) := by
  intro n
  induction n with
  | zero => intro i h1 h2; omega
  | succ n ih =>
    intro i h1 h2
    rw [wpl_X7_mixInto_13]
    rcases Nat.lt_or_ge i U.length with q | q
    · have hi : U[i]? = some U[i] := List.getElem?_eq_getElem q
      obtain ⟨g1, g2⟩ := h i _ hi
      refine ⟨fun z => absurd z (by rw [nI_leI (by omega) (by omega)]; omega), fun _ => ⟨vp_in_nI (by omega) (by decide), x_mix ?_⟩⟩
      rw [nI_clamp (by omega), g2, nI_1, ← dU_succ q]
      exact ih (i + 1) (by omega) (by omega)
    · have : i = U.length := by omega
      subst this
      refine ⟨fun _ => ?_, fun z => absurd (by rw [nI_leI (by omega) (by omega)]; omega) z⟩
      rw [List.take_length]; exact k
theorem x_dP_loop {a : Nat → Int32} {n9 : Int32} {h0 x1 : Int64} {K : Int64 → Prop} (k : K (mxs a 128 h0)) : ∀ (n i : Nat), i + n = 129 → i ≤ 128 → wpl_X4_mixInto_13 a n9 K n x1 (mxs a i h0) (nI i) := by
  intro n
  induction n with
  | zero => intro i h1 h2; omega
  | succ n ih =>
    intro i h1 h2
    rw [wpl_X4_mixInto_13]
    rcases Nat.lt_or_ge i 128 with q | q
    · refine ⟨fun z => absurd z (by rw [show (128 : Int32) = nI 128 from rfl, nI_leI (by decide) (by omega)]; omega), fun _ => ⟨vp_in_nI q (by decide), x_mix ?_⟩⟩
      rw [nI_clamp (by omega), nI_1]
      exact ih (i + 1) (by omega) (by omega)
    · have : i = 128 := by omega
      subst this
      exact ⟨fun _ => k, fun z => absurd (by decide) z⟩
/-- the clients' part -/
def dC (q z cr sv : Nat → Nat) (i : Nat) (h : Int64) : Int64 := mx (mx (mxs (fun k => nI (z (8 * i + k))) (q i) (mx h (nI (q i)))) (nI (cr i))) (nI (sv i))
def dS (q z cr sv : Nat → Nat) : Nat → Int64 → Int64
  | 0, h => h
  | n + 1, h => dC q z cr sv n (dS q z cr sv n h)
theorem x_dC_loop {q z cr sv : Nat → Nat} {pt gt : Nat} {a b c d : Nat → Int32} {w p g : Int32} (hC : SrvC q z cr sv pt gt a b c d w p g) (hI : SrvI q z cr sv pt gt) {i : Nat} (hi : i < 16) {h0 x1 : Int64} {J : Int64 → Int64 → Int32 → Prop} {K : Int64 → Prop} (k : J x1 (mx (mx (mxs (fun k => nI (z (8 * i + k))) (q i) h0) (nI (cr i))) (nI (sv i))) (nI (i + 1))) : ∀ (n j : Nat), j + n = q i + 1 → j ≤ q i → wpl_X5_mixInto_36 a b c d w p g J K n x1 (mxs (fun k => nI (z (8 * i + k))) j h0) (nI i) (nI j) := by
  intro n
  have h8 := hI.1 i hi
  have v : vp_in (nI i) 16 := vp_in_nI hi (by decide)
  induction n with
  | zero => intro j h1 h2; omega
  | succ n ih =>
    intro j h1 h2
    rw [wpl_X5_mixInto_36, nI_clamp (by omega), hC.1 i hi, nI_leI (by omega) (by omega)]
    refine ⟨v, fun x => ⟨v, x_mix ⟨v, x_mix ?_⟩⟩, fun x => ?_⟩
    · have e : j = q i := by omega
      subst e
      rw [hC.2.2.1 i hi, hC.2.2.2.1 i hi, nI_1]
      exact k
    · rw [show (8 : Int32) = nI 8 from rfl, pk_mul, nI_add, show i * 8 + j = 8 * i + j by omega, nI_clamp (by omega), hC.2.1 i j hi (by omega), nI_1]
      exact ⟨vp_in_nI (by omega) (by decide), x_mix (ih (j + 1) (by omega) (by omega))⟩
theorem x_dS_loop {q z cr sv : Nat → Nat} {pt gt : Nat} {a b c d : Nat → Int32} {w p g : Int32} (hC : SrvC q z cr sv pt gt a b c d w p g) (hI : SrvI q z cr sv pt gt) {h0 x1 : Int64} {K : Int64 → Prop} (k : K (dS q z cr sv 16 h0)) : ∀ (n i : Nat), i + n = 17 → i ≤ 16 → wpl_X5_mixInto_13 a b c d w p g K n x1 (dS q z cr sv i h0) (nI i) := by
  intro n
  induction n with
  | zero => intro i h1 h2; omega
  | succ n ih =>
    intro i h1 h2
    rw [wpl_X5_mixInto_13]
    rcases Nat.lt_or_ge i 16 with y | y
    · refine ⟨fun x => absurd x (by rw [show (16 : Int32) = nI 16 from rfl, nI_leI (by decide) (by omega)]; omega), fun _ => ⟨vp_in_nI y (by decide), x_mix ⟨q i + 1, ?_⟩⟩⟩
      rw [nI_clamp (by omega), hC.1 i y]
      exact x_dC_loop hC hI y (ih (i + 1) (by omega) (by omega)) (q i + 1) 0 (by omega) (by omega)
    · have : i = 16 := by omega
      subst this
      exact ⟨fun _ => k, fun x => absurd (by decide) x⟩
theorem x_dX_loop {ec n0 : Nat → Int32} {r0 : Nat → Nat → Int32} {s : Int32} {K : Int64 → Prop} (k : wp_X6_mixInto n0 r0 (mxs ec 9 2741) (fun r2 => K (mx r2 s))) : ∀ (n i : Nat), i + n = 10 → i ≤ 9 → wpl_X8_digest_6 ec n0 r0 s K n (mxs ec i 2741) (nI i) := by
  intro n
  induction n with
  | zero => intro i h1 h2; omega
  | succ n ih =>
    intro i h1 h2
    rw [wpl_X8_digest_6]
    rcases Nat.lt_or_ge i 9 with q | q
    · refine ⟨fun z => absurd z (by rw [show (9 : Int32) = nI 9 from rfl, nI_leI (by decide) (by omega)]; omega), fun _ => ⟨vp_in_nI q (by decide), x_mix ?_⟩⟩
      rw [nI_clamp (by omega), nI_1]
      exact ih (i + 1) (by omega) (by omega)
    · have : i = 9 := by omega
      subst this
      exact ⟨fun _ => k, fun z => absurd (by decide) z⟩
section MD
variable {f g em : Nat → Int32} {s : Int32}
theorem m_dC_loop {q z cr sv : Nat → Nat} {pt gt : Nat} (hM : SrvM q z cr sv pt gt f) (hI : SrvI q z cr sv pt gt) {i : Nat} (hi : i < 16) {h0 : Int64} {K : Int64 → Prop} (k : K (mx (mx (mxs (fun k => nI (z (8 * i + k))) (q i) h0) (nI (cr i))) (nI (sv i)))) : ∀ (n j : Nat), j + n = q i + 1 → j ≤ q i → wpl_X9_mixClient_16 f g s em K n (nI i) (nI j) (mxs (fun k => nI (z (8 * i + k))) j h0) := by
  intro n
  have h8 := hI.1 i hi
  induction n with
  | zero => intro j h1 h2; omega
  | succ n ih =>
    intro j h1 h2
    rw [wpl_X9_mixClient_16, show (228 : Int32) + nI i = nI (228 + i) from ix, show (372 : Int32) + nI i = nI (372 + i) from ix, show (388 : Int32) + nI i = nI (388 + i) from ix, show (8 : Int32) = nI 8 from rfl, pk_mul, show (244 : Int32) + nI (8 * i) = nI (244 + 8 * i) from ix, nI_add, nI_clamp (by omega), nI_clamp (by omega), nI_clamp (by omega), nI_clamp (by omega), hM.1 i hi, hM.2.2.1 i hi, hM.2.2.2.1 i hi, nI_leI (by omega) (by omega)]
    refine ⟨vp_in_nI (by omega) (by decide), fun x => ⟨vp_in_nI (by omega) (by decide), m_mix ⟨vp_in_nI (by omega) (by decide), m_mix ?_⟩⟩, fun x => ?_⟩
    · have e : j = q i := by omega
      subst e
      exact k
    · rw [hM.2.1 i j hi (by omega), nI_1]
      exact ⟨vp_in_nI (by omega) (by decide), m_mix (ih (j + 1) (by omega) (by omega))⟩
theorem m_dS_loop {q z cr sv : Nat → Nat} {pt gt : Nat} (hM : SrvM q z cr sv pt gt f) (hI : SrvI q z cr sv pt gt) {h0 : Int64} {K : Int64 → Int64 → Prop} (k : K (mx (dS q z cr sv 16 h0) s) (mx (dS q z cr sv 16 h0) s)) : ∀ (n i : Nat), i + n = 17 → i ≤ 16 → wpl_X9_digest_281 f g s em K n (nI i) (dS q z cr sv i h0) := by
  intro n
  induction n with
  | zero => intro i h1 h2; omega
  | succ n ih =>
    intro i h1 h2
    rw [wpl_X9_digest_281]
    rcases Nat.lt_or_ge i 16 with y | y
    · refine ⟨fun x => absurd x (by rw [show (16 : Int32) = nI 16 from rfl, nI_leI (by decide) (by omega)]; omega), fun _ => ?_⟩
      rw [wp_X9_mixClient, show (228 : Int32) + nI i = nI (228 + i) from ix, nI_clamp (by omega), hM.1 i y, nI_1]
      exact ⟨vp_in_nI (by omega) (by decide), m_mix ⟨q i + 1, m_dC_loop hM hI y (ih (i + 1) (by omega) (by omega)) (q i + 1) 0 (by omega) (by omega)⟩⟩
    · have : i = 16 := by omega
      subst this
      exact ⟨fun _ => m_mix k, fun x => absurd (by decide) x⟩
theorem m_dU_loop {U : List Use} {q z cr sv : Nat → Nat} {pt gt : Nat} (hM : SrvM q z cr sv pt gt f) (hI : SrvI q z cr sv pt gt) (h : UM U f) (hl : U.length ≤ 20) {h0 : Int64} {K : Int64 → Int64 → Prop} (k : K (mx (dS q z cr sv 16 (mx (mx (dU U h0) (f 5)) (f 6))) s) (mx (dS q z cr sv 16 (mx (mx (dU U h0) (f 5)) (f 6))) s)) : ∀ (n i : Nat), i + n = U.length + 1 → i ≤ U.length → wpl_X9_digest_226 f g s em K n (nI i) (dU (U.take i) h0) := by
  intro n
  induction n with
  | zero => intro i h1 h2; omega
  | succ n ih =>
    intro i h1 h2
    rw [wpl_X9_digest_226, h.1]
    rcases Nat.lt_or_ge i U.length with y | y
    · have hi : U[i]? = some U[i] := List.getElem?_eq_getElem y
      obtain ⟨g1, g2, g3⟩ := h.2 i _ hi
      refine ⟨fun x => absurd x (by rw [nI_leI (by omega) (by omega)]; omega), fun _ => ?_⟩
      rw [show (168 : Int32) = nI 168 from rfl, show (3 : Int32) = nI 3 from rfl, pk_mul, nI_add, nI_clamp (by omega), g1, nI_1]
      refine ⟨vp_in_nI (by omega) (by decide), m_mix ?_⟩
      rw [← dU_succ y]
      exact ih (i + 1) (by omega) (by omega)
    · have : i = U.length := by omega
      subst this
      refine ⟨fun _ => m_mix (m_mix ⟨17, ?_⟩), fun x => absurd (by rw [nI_leI (by omega) (by omega)]; omega) x⟩
      rw [List.take_length]
      exact m_dS_loop hM hI k 17 0 (by omega) (by omega)
theorem m_dP_loop {Q : Nat → Nat} {U : List Use} {q z cr sv : Nat → Nat} {pt gt : Nat} (hM : SrvM q z cr sv pt gt f) (hI : SrvI q z cr sv pt gt) (h : UM U f) (hl : U.length ≤ 20) (hP : PM Q f) {h0 : Int64} {K : Int64 → Int64 → Prop} (k : K (mx (dS q z cr sv 16 (mx (mx (dU U (mx (mxs (fun j => nI (Q j)) 128 h0) (nI U.length))) (f 5)) (f 6))) s) (mx (dS q z cr sv 16 (mx (mx (dU U (mx (mxs (fun j => nI (Q j)) 128 h0) (nI U.length))) (f 5)) (f 6))) s)) : ∀ (n i : Nat), i + n = 129 → i ≤ 128 → wpl_X9_digest_188 f g s em K n (nI i) (mxs (fun j => nI (Q j)) i h0) := by
  intro n
  induction n with
  | zero => intro i h1 h2; omega
  | succ n ih =>
    intro i h1 h2
    rw [wpl_X9_digest_188]
    rcases Nat.lt_or_ge i 128 with y | y
    · refine ⟨fun x => absurd x (by rw [show (128 : Int32) = nI 128 from rfl, nI_leI (by decide) (by omega)]; omega), fun _ => ?_⟩
      rw [show (40 : Int32) + nI i = nI (40 + i) from ix, nI_clamp (by omega), hP i y, nI_1]
      exact ⟨vp_in_nI (by omega) (by decide), m_mix (ih (i + 1) (by omega) (by omega))⟩
    · have : i = 128 := by omega
      subst this
      refine ⟨fun _ => m_mix ⟨U.length + 1, ?_⟩, fun x => absurd (by decide) x⟩
      rw [h.1]
      exact m_dU_loop hM hI h hl k (U.length + 1) 0 (by omega) (by omega)
theorem m_dE_loop {L : List Ent} {t : Nat} {Q : Nat → Nat} {U : List Use} {q z cr sv : Nat → Nat} {pt gt : Nat} (hM : SrvM q z cr sv pt gt f) (hI : SrvI q z cr sv pt gt) (h : UM U f) (hl : U.length ≤ 20) (hP : PM Q f) (hb : ∀ j, j < 128 → Q j ≤ 8) (hE : EM L f) (hl4 : L.length ≤ 4) (h0f : f 0 = nI t) {h0 : Int64} {K : Int64 → Int64 → Prop} (k : K (mx (dS q z cr sv 16 (mx (mx (dU U (mx (mxs (fun j => nI (Q j)) 128 (mx (dE t L h0) (nI (cntP Q)))) (nI U.length))) (f 5)) (f 6))) s) (mx (dS q z cr sv 16 (mx (mx (dU U (mx (mxs (fun j => nI (Q j)) 128 (mx (dE t L h0) (nI (cntP Q)))) (nI U.length))) (f 5)) (f 6))) s)) : ∀ (n i : Nat), i + n = L.length + 1 → i ≤ L.length → wpl_X9_digest_89 f g s em K n (nI i) (dE t (L.take i) h0) := by
  intro n
  induction n with
  | zero => intro i h1 h2; omega
  | succ n ih =>
    intro i h1 h2
    rw [wpl_X9_digest_89, hE.1]
    rcases Nat.lt_or_ge i L.length with y | y
    · have hi : L[i]? = some L[i] := List.getElem?_eq_getElem y
      obtain ⟨g1, g2, g3, g4⟩ := hE.2 i _ hi
      refine ⟨fun x => absurd x (by rw [nI_leI (by omega) (by omega)]; omega), fun _ => ?_⟩
      rw [show (24 : Int32) = nI 24 from rfl, show (4 : Int32) = nI 4 from rfl, show (3 : Int32) = nI 3 from rfl, show (2 : Int32) = nI 2 from rfl, pk_mul, nI_add, nI_add, nI_add, show nI (24 + 4 * i) + 1 = nI (24 + 4 * i + 1) from nI_1 _, nI_clamp (by omega), nI_clamp (by omega), nI_clamp (by omega), nI_clamp (by omega), g1, g2, g3, g4, h0f, nI_1]
      refine ⟨vp_in_nI (by omega) (by decide), m_mix ⟨vp_in_nI (by omega) (by decide), m_mix ⟨vp_in_nI (by omega) (by decide), m_mix ⟨vp_in_nI (by omega) (by decide), m_mix ?_⟩⟩⟩⟩
      rw [← dE_succ y]
      exact ih (i + 1) (by omega) (by omega)
    · have : i = L.length := by omega
      subst this
      refine ⟨fun _ => m_connections hP hb (m_mix ⟨129, ?_⟩), fun x => absurd (by rw [nI_leI (by omega) (by omega)]; omega) x⟩
      rw [List.take_length]
      exact m_dP_loop hM hI h hl hP k 129 0 (by omega) (by omega)
theorem m_dX_loop {K : Int64 → Int64 → Prop} (k : (wp_X9_mix f g s em (mxs em 9 2741) (f 0) (fun (g2 : Int64) => (wp_X9_mix f g s em g2 (f 1) (fun (g3 : Int64) => (wp_X9_mix f g s em g3 (f 2) (fun (g4 : Int64) => (wp_X9_loadNow f g s em g4 (fun (r5 : Int32) => (wp_X9_mix f g s em g4 r5 (fun (g6 : Int64) => (wp_X9_difficultyNow f g s em g6 (fun (r7 : Int32) => (wp_X9_mix f g s em g6 r7 (fun (g8 : Int64) => (wp_X9_mix f g s em g8 (f 3) (fun (g9 : Int64) => (∃ n8 : Nat, wpl_X9_digest_89 f g s em K n8 0 g9)))))))))))))))))) : ∀ (n i : Nat), i + n = 10 → i ≤ 9 → wpl_X9_digest_9 f g s em K n (nI i) (mxs em i 2741) := by
  intro n
  induction n with
  | zero => intro i h1 h2; omega
  | succ n ih =>
    intro i h1 h2
    rw [wpl_X9_digest_9]
    rcases Nat.lt_or_ge i 9 with q | q
    · refine ⟨fun z => absurd z (by rw [show (9 : Int32) = nI 9 from rfl, nI_leI (by decide) (by omega)]; omega), fun _ => ⟨vp_in_nI q (by decide), m_mix ?_⟩⟩
      rw [nI_clamp (by omega), nI_1]
      exact ih (i + 1) (by omega) (by omega)
    · have : i = 9 := by omega
      subst this
      exact ⟨fun _ => k, fun z => absurd (by decide) z⟩
end MD
section CS7
variable {B L : Nat} {xs : Nat → Int32} {J : JT} {x3 : Int32} {ec : Nat → Int32} {a0 : Nat → Nat} {n0 : Nat → Int32} {r0 : Nat → Nat → Int32} {s : Int32} {a1 : Nat → Nat} {n1 : Nat → Int32} {r1 : Nat → Nat → Int32} {a2 : Nat → Nat} {n2 : Nat → Int32} {r2 : Nat → Nat → Int32} {a3 : Nat → Nat} {n3 : Nat → Int32} {r3 : Nat → Nat → Int32} {f g : Nat → Int32} {sm : Int32} {em : Nat → Int32} {hh : Int64}
theorem cs_digest (hB : B ≤ 600) (hI : Inv B ec n0 r0 s n1 r1 n2 r2 n3 r3 f g sm em) (hJ : Goes9 B (x3 + 5) J) : wc_757 L xs J x3 ec a0 n0 r0 s a1 n1 r1 a2 n2 r2 a3 n3 r3 f g sm em hh := by
  rw [wc_757, wp_X8_digest]
  obtain ⟨s9, hs9, rfl, rfl, he, hS, hP9⟩ := id hI
  obtain ⟨t, ky, O, Q, q, z, cr, sv, LL, U, pt, gt, ⟨h1, h2, h3⟩, ⟨k1, k2, k3⟩, ⟨o1, o2⟩, hw, ⟨g1, g2, g3⟩, ⟨e1, e2, e3, e4⟩, ⟨p1, p2, p3, p4, p5⟩, ⟨u1, u2, u3, u4⟩, ⟨s1, s2, s3, s4⟩⟩ := id hS
  have hl4 := e4.1.1
  have hl20 := u4.1
  refine ⟨10, x_dX_loop ?_ 10 0 (by omega) (by omega)⟩
  rw [wp_X6_mixInto, e2, h2]
  refine x_mix (x_mix (x_mix (x_total g1 (x_mix (x_difficulty g1 (by omega) (x_mix ?_))))))
  rw [wp_X1_mixInto]
  refine x_mix ⟨LL.length + 1, x_dE_loop e1 hl4 (fun e h => (e4.1.2.2 e h).1) ?_ _ 0 (by omega) (by omega)⟩
  rw [wp_X4_mixInto, p4]
  refine x_mix ⟨129, x_dP_loop ?_ 129 0 (by omega) (by omega)⟩
  rw [wp_X7_mixInto, u2]
  refine x_mix ⟨U.length + 1, x_dU_loop u1 hl20 (x_mix ?_) _ 0 (by omega) (by omega)⟩
  rw [wp_X5_mixInto]
  refine x_mix ⟨17, x_dS_loop s1 s3 ?_ 17 0 (by omega) (by omega)⟩
  rw [wp_X9_digest]
  refine ⟨10, m_dX_loop (m_mix (m_mix (m_mix (m_loadNow g2 (m_mix (m_difficulty g2 (by omega) (m_mix (m_mix ⟨LL.length + 1, ?_⟩)))))))) 10 0 (by omega) (by omega)⟩
  rw [e3.1]
  refine m_dE_loop (t := t) s2 s3 u3 hl20 p2 p3 e3 hl4 h3 ?_ (LL.length + 1) 0 (by omega) (by omega)
  rw [lcmp0]
  have eP : ∀ h : Int64, mxs (r0 4) 128 h = mxs (fun j => nI (Q j)) 128 h := fun h => mxs_cong (fun j hj => p1 j hj)
  have eE : ∀ h : Int64, mxs em 9 h = mxs ec 9 h := fun h => mxs_cong (fun j hj => he j hj)
  have e6 : n0 8 = f 6 := by rw [s1.2.2.2.2.2.1, s2.2.2.2.2.1]
  rw [eP, eE, h3, k2, k3, o2, hw, e6]
  exact ⟨fun _ => hJ _ _ _ _ _ _ _ _ _ _ _ _ _ _ _ _ _ _ _ hI.up, fun y => y rfl⟩
end CS7
