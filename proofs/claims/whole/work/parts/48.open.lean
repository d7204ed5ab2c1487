/-! the cases of the law: opening -/
def ckN (ky pl ep o : Nat) : Nat := 32768 * (ep % 32) + 4096 * o + markN ky pl (ep % 32) o
theorem markN_lt (k p s o : Nat) : markN k p s o < 4096 := Nat.mod_lt _ (by decide)
theorem ckN_lt {ky pl ep o : Nat} (h : o < 8) : ckN ky pl ep o < 1048576 := by
  have := markN_lt ky pl (ep % 32) o
  unfold ckN
  omega
theorem EM.wr {L : List Ent} {f f' : Nat → Int32} {j : Nat} {e : Ent} (h : EM L f) (hl : L.length ≤ 4) (hj : j < L.length) (a0 : f' (24 + 4 * j) = nI (e.1 / 8)) (a1 : f' (24 + 4 * j + 1) = nI (e.1 % 8)) (a2 : f' (24 + 4 * j + 2) = nI e.2.1) (a3 : f' (24 + 4 * j + 3) = nI e.2.2) (ho : ∀ i, ¬ (24 + 4 * j ≤ i ∧ i < 24 + 4 * j + 4) → f' i = f i) : EM (L.set j e) f' := by
  refine ⟨by rw [List.length_set, ho 3 (by omega)]; exact h.1, fun i d hi => ?_⟩
  by_cases x : i = j
  · subst x
    rw [List.getElem?_set_self hj] at hi
    cases hi
    exact ⟨a0, a1, a2, a3⟩
  · rw [List.getElem?_set_ne (Ne.symm x)] at hi
    have := h.2 i d hi
    rw [ho _ (by omega), ho _ (by omega), ho _ (by omega), ho _ (by omega)]
    exact this
theorem EM.add {L : List Ent} {f f' : Nat → Int32} {e : Ent} (h : EM L f) (h3 : f' 3 = nI (L.length + 1)) (a0 : f' (24 + 4 * L.length) = nI (e.1 / 8)) (a1 : f' (24 + 4 * L.length + 1) = nI (e.1 % 8)) (a2 : f' (24 + 4 * L.length + 2) = nI e.2.1) (a3 : f' (24 + 4 * L.length + 3) = nI e.2.2) (ho : ∀ i, 24 ≤ i → i < 24 + 4 * L.length → f' i = f i) : EM (L ++ [e]) f' := by
  refine ⟨by rw [h3]; simp, fun i d hi => ?_⟩
  rcases Nat.lt_or_ge i L.length with q | q
  · rw [List.getElem?_append_left q] at hi
    have := h.2 i d hi
    rw [ho _ (by omega) (by omega), ho _ (by omega) (by omega), ho _ (by omega) (by omega), ho _ (by omega) (by omega)]
    exact this
  · rw [List.getElem?_append_right q] at hi
    have e0 : i - L.length = 0 := by
      have := (List.getElem?_eq_some_iff.mp hi).1
      simp only [List.length_cons, List.length_nil] at this; omega
    have e2 : i = L.length := by omega
    subst e2
    rw [e0] at hi
    cases hi
    exact ⟨a0, a1, a2, a3⟩
theorem EI2.wr {L : List Ent} {t i pl ck : Nat} {e : Ent} (h : EI2 L t) (hi : L[i]? = some e) (he : e.1 = pl) (hp : pl < 128) (hc : ck < 1048576) : EI2 (L.set i (pl, ck, t)) t := by
  obtain ⟨⟨h1, h2, h3⟩, h4⟩ := h
  have hk : ∀ (a : Nat) (d : Ent), (L.set i (pl, ck, t))[a]? = some d → ∃ d0 : Ent, L[a]? = some d0 ∧ d0.1 = d.1 := fun a d hd => by
    by_cases x : a = i
    · subst x
      rw [List.getElem?_set_self (List.getElem?_eq_some_iff.mp hi).1] at hd
      cases hd
      exact ⟨e, hi, he⟩
    · rw [List.getElem?_set_ne (Ne.symm x)] at hd
      exact ⟨d, hd, rfl⟩
  refine ⟨⟨by rw [List.length_set]; exact h1, fun a b d d' ha hb hab => ?_, fun d hd => ?_⟩, fun d hd => ?_⟩
  · obtain ⟨x, x1, x2⟩ := hk a d ha
    obtain ⟨y, y1, y2⟩ := hk b d' hb
    exact h2 a b x y x1 y1 (by rw [x2, y2]; exact hab)
  · rcases List.mem_or_eq_of_mem_set hd with m | m
    · exact h3 d m
    · subst m; exact ⟨hp, hc, Nat.le_refl _⟩
  · rcases List.mem_or_eq_of_mem_set hd with m | m
    · exact h4 d m
    · subst m; show t < t + 20; omega
theorem EI2.add {L : List Ent} {t pl ck : Nat} (h : EI2 L t) (hl : L.length < 4) (hn : ∀ e ∈ L, e.1 ≠ pl) (hp : pl < 128) (hc : ck < 1048576) : EI2 (L ++ [(pl, ck, t)]) t := by
  obtain ⟨⟨h1, h2, h3⟩, h4⟩ := h
  refine ⟨⟨by simp; omega, ?_, fun d hd => ?_⟩, fun d hd => ?_⟩
  · rw [uq_pw]
    refine List.pairwise_append.mpr ⟨uq_pw.mp h2, List.pairwise_singleton _ _, fun a ha b hb => ?_⟩
    rw [List.mem_singleton] at hb
    subst hb
    exact hn a ha
  · rcases List.mem_append.mp hd with m | m
    · exact h3 d m
    · rw [List.mem_singleton] at m; subst m; exact ⟨hp, hc, Nat.le_refl _⟩
  · rcases List.mem_append.mp hd with m | m
    · exact h4 d m
    · rw [List.mem_singleton] at m; subst m; show t < t + 20; omega
/-- what a write to the entries and the openings leaves -/
def KeepO (f f' : Nat → Int32) : Prop := ∀ j, j ≠ 3 → ¬ (8 ≤ j ∧ j < 40) → f' j = f j
section CS5
variable {B L : Nat} {xs : Nat → Int32} {J : JT} {x3 : Int32} {ec : Nat → Int32} {a0 : Nat → Nat} {n0 : Nat → Int32} {r0 : Nat → Nat → Int32} {s : Int32} {a1 : Nat → Nat} {n1 : Nat → Int32} {r1 : Nat → Nat → Int32} {a2 : Nat → Nat} {n2 : Nat → Int32} {r2 : Nat → Nat → Int32} {a3 : Nat → Nat} {n3 : Nat → Int32} {r3 : Nat → Nat → Int32} {f g : Nat → Int32} {sm : Int32} {em : Nat → Int32} {hh : Int64}
theorem m_open {c p w o t ky s9 : Nat} {O : Nat → Nat} {LL : List Ent} (hc : c < 16) (hp : p < 8) (hw1 : 64 ≤ w) (hw2 : w ≤ 9999) (ho9 : OptOf w o) (ht : t < 2 ^ 29) (h3 : f 0 = nI t) (hk : ky ≤ 65520) (k3 : f 1 = nI ky) (g2 : OM O f) (g3 : fb_sm O 16 < 2 ^ 20) (e3 : EM LL f) (e4 : EI2 LL t) (hs9 : s9 ≤ 3) {Q : Nat → Nat} (p2 : PM Q f) (p3 : ∀ j, j < 128 → Q j ≤ 8) (hq : Q (8 * c + p) = 0) {K : Int32 → (Nat → Int32) → (Nat → Int32) → Int32 → (Nat → Int32) → Prop}
    (ks : ∀ (j : Nat) (e : Ent), LL[j]? = some e → e.1 = 8 * c + p → ∀ f' g', SavedM s9 f g g' → KeepO f f' → OM (addAt O (t % 16)) f' → EM (LL.set j (8 * c + p, ckN ky (8 * c + p) (t / 64) o, t)) f' → K (nI (ckN ky (8 * c + p) (t / 64) o)) f' g' (nI (nxt s9)) em)
    (kn : (∀ e ∈ LL, e.1 ≠ 8 * c + p) → (12 ≤ fb_sm O 16 + 1 ∨ LL.length = 4) → ∀ f' g', SavedM s9 f g g' → KeepO f f' → OM (addAt O (t % 16)) f' → EM LL f' → K (nI (ckN ky (8 * c + p) (t / 64) o)) f' g' (nI (nxt s9)) em)
    (ka : (∀ e ∈ LL, e.1 ≠ 8 * c + p) → ¬ 12 ≤ fb_sm O 16 + 1 → LL.length < 4 → ∀ f' g', SavedM s9 f g g' → KeepO f f' → OM (addAt O (t % 16)) f' → EM (LL ++ [(8 * c + p, ckN ky (8 * c + p) (t / 64) o, t)]) f' → K (nI (ckN ky (8 * c + p) (t / 64) o)) f' g' (nI (nxt s9)) em) : wp_X9_open f g (nI s9) em hh (nI c) (nI p) (nI w) K := by
  rw [wp_X9_open]
  have hl4 := e4.1.1
  have hpl8 : (8 * c + p) / 8 = c := by omega
  have hpl9 : (8 * c + p) % 8 = p := by omega
  refine m_isPort_in hc hp ⟨fun y => absurd y one_ne, fun _ => m_within_in (l := 64) (h := 9999) rfl rfl rfl hw1 hw2 (by decide) ⟨fun _ => m_isConnected p2 p3 hc hp (fun _ => ⟨fun _ => m_saves hs9 (fun g' hg' => ?_), fun y => absurd rfl y⟩) (fun x => by omega), fun y => absurd y one_ne⟩⟩
  have hj : jrem (f 0) 16 = nI (t % 16) := by rw [h3]; exact jrem_nI (by omega) (by decide) (by decide)
  have hm : t % 16 < 16 := Nat.mod_lt _ (by decide)
  rw [hj, show (8 : Int32) + nI (t % 16) = nI (8 + t % 16) from ix, nI_clamp (by omega), g2 _ hm, nI_1]
  refine ⟨vp_in_nI (by omega) (by decide), vp_in_nI (by omega) (by decide), fun f11 e11 => ?_⟩
  have ho11 : ∀ j, j ≠ 8 + t % 16 → f11 j = f j := fun j a => by rw [e11, pk_un a]
  have hO11 : OM (addAt O (t % 16)) f11 := fun j hj => by
    unfold addAt
    by_cases x : j = t % 16
    · subst x; rw [if_pos rfl, e11, pk_us]
    · rw [if_neg x, ho11 _ (by omega)]; exact g2 j hj
  have hE11 : EM LL f11 := e3.out hl4 (ho11 3 (by omega)) (fun j _ _ => ho11 j (by omega))
  have h110 : f11 0 = nI t := by rw [ho11 0 (by omega)]; exact h3
  have hep : jrem (nI (t / 64)) 32 = nI (t / 64 % 32) := jrem_nI (by omega) (by decide) (by decide)
  rw [wp_X9_epochNow, h110, ep_eq (by omega), hep, ho11 1 (by omega), k3]
  have hmk := markN_lt ky (8 * c + p) (t / 64 % 32) o
  refine m_indexOf hw1 (by omega) (fun o2 h2o => ?_)
  have := OptOf.uniq h2o ho9
  subst this
  have ho8 := h2o.1
  refine m_markOf hk hc hp (by omega) ho8 ?_
  have eck : (32768 * nI (t / 64 % 32) + 4096 * nI o2) + nI (markN ky (8 * c + p) (t / 64 % 32) o2) = nI (ckN ky (8 * c + p) (t / 64) o2) := by
    rw [show (32768 : Int32) = nI 32768 from rfl, show (4096 : Int32) = nI 4096 from rfl, pk_mul, pk_mul, nI_add, nI_add]
    rfl
  rw [eck]
  have hko : ∀ f', (∀ j, j ≠ 3 → ¬ (24 ≤ j ∧ j < 40) → f' j = f11 j) → KeepO f f' := fun f' x j a b => by
    rw [x j a (by omega), ho11 j (by omega)]
  have hoo : ∀ f', (∀ j, j ≠ 3 → ¬ (24 ≤ j ∧ j < 40) → f' j = f11 j) → OM (addAt O (t % 16)) f' := fun f' x => hO11.out (fun j _ _ => x j (by omega) (by omega))
  refine m_entryOf hE11 e4.1 hc hp (fun j e hj he => ⟨fun _ => ?_, fun y => absurd y (nI_nm1 (by have := (List.getElem?_eq_some_iff.mp hj).1; omega))⟩) (fun hn => ⟨fun y => absurd rfl y, fun _ => ?_⟩)
  · have hj4 := (List.getElem?_eq_some_iff.mp hj).1
    refine ⟨fun y => absurd y (nI_nm1 (by omega)), fun _ => ?_⟩
    rw [show (24 : Int32) = nI 24 from rfl, show (4 : Int32) = nI 4 from rfl, show (3 : Int32) = nI 3 from rfl, show (2 : Int32) = nI 2 from rfl, show (1 : Int32) = nI 1 from rfl, pk_mul, nI_add, nI_add, nI_add, nI_add, nI_clamp (by omega), nI_clamp (by omega), nI_clamp (by omega), nI_clamp (by omega)]
    refine ⟨vp_in_nI (by omega) (by decide), fun f18 e18 => ⟨vp_in_nI (by omega) (by decide), fun f19 e19 => ⟨vp_in_nI (by omega) (by decide), fun f20 e20 => ⟨vp_in_nI (by omega) (by decide), fun f21 e21 => ?_⟩⟩⟩⟩
    have h20 : f20 0 = nI t := by rw [e20, pk_un (by omega), e19, pk_un (by omega), e18, pk_un (by omega)]; exact h110
    rw [h20] at e21
    have hoo21 : ∀ i, ¬ (24 + 4 * j ≤ i ∧ i < 24 + 4 * j + 4) → f21 i = f11 i := fun i hi => by rw [e21, pk_un (by omega), e20, pk_un (by omega), e19, pk_un (by omega), e18, pk_un (by omega)]
    have hx : ∀ i, i ≠ 3 → ¬ (24 ≤ i ∧ i < 40) → f21 i = f11 i := fun i a b => hoo21 i (by omega)
    refine ks j e hj he f21 g' hg' (hko f21 hx) (hoo f21 hx) (hE11.wr hl4 hj4 ?_ ?_ ?_ ?_ hoo21)
    · show f21 (24 + 4 * j) = nI ((8 * c + p) / 8)
      rw [hpl8, e21, pk_un (by omega), e20, pk_un (by omega), e19, pk_un (by omega), e18, pk_us]
    · show f21 (24 + 4 * j + 1) = nI ((8 * c + p) % 8)
      rw [hpl9, e21, pk_un (by omega), e20, pk_un (by omega), e19, pk_us]
    · rw [e21, pk_un (by omega), e20, pk_us]
    · rw [e21, pk_us]
  · refine m_loadNow hO11 ?_
    rw [sm_addAt O hm, show (12 : Int32) = nI 12 from rfl, nI_leI (by decide) (by omega), hE11.1, show (4 : Int32) = nI 4 from rfl, nI_leI (by decide) (by omega)]
    refine ⟨fun x => ⟨fun _ => kn hn (Or.inl x) f11 g' hg' (hko f11 (fun _ _ _ => rfl)) hO11 hE11, fun y => absurd rfl y⟩, fun x => ⟨fun x4 => ⟨fun _ => kn hn (Or.inr (by omega)) f11 g' hg' (hko f11 (fun _ _ _ => rfl)) hO11 hE11, fun y => absurd rfl y⟩, fun x4 f35 e35 => ⟨fun y => absurd y (nI_nm1 (by omega)), fun _ => ?_⟩⟩⟩
    rw [show (24 : Int32) = nI 24 from rfl, show (3 : Int32) = nI 3 from rfl, show (2 : Int32) = nI 2 from rfl, show (1 : Int32) = nI 1 from rfl, pk_mul, nI_add, nI_add, nI_add, nI_add, nI_clamp (by omega), nI_clamp (by omega), nI_clamp (by omega), nI_clamp (by omega)]
    refine ⟨vp_in_nI (by omega) (by decide), fun f18 e18 => ⟨vp_in_nI (by omega) (by decide), fun f19 e19 => ⟨vp_in_nI (by omega) (by decide), fun f20 e20 => ⟨vp_in_nI (by omega) (by decide), fun f21 e21 => ?_⟩⟩⟩⟩
    rw [nI_1] at e35
    have h20 : f20 0 = nI t := by rw [e20, pk_un (by omega), e19, pk_un (by omega), e18, pk_un (by omega), e35, pk_un (by omega)]; exact h110
    rw [h20] at e21
    have hoo21 : ∀ i, i ≠ 3 → ¬ (24 + 4 * LL.length ≤ i ∧ i < 24 + 4 * LL.length + 4) → f21 i = f11 i := fun i h3 hi => by rw [e21, pk_un (by omega), e20, pk_un (by omega), e19, pk_un (by omega), e18, pk_un (by omega), e35, pk_un h3]
    have hx : ∀ i, i ≠ 3 → ¬ (24 ≤ i ∧ i < 40) → f21 i = f11 i := fun i a b => hoo21 i a (by omega)
    refine ka hn x (by omega) f21 g' hg' (hko f21 hx) (hoo f21 hx) (hE11.add ?_ ?_ ?_ ?_ ?_ (fun i a b => hoo21 i (by omega) (by omega)))
    · rw [e21, pk_un (by omega), e20, pk_un (by omega), e19, pk_un (by omega), e18, pk_un (by omega), e35, pk_us]
    · show f21 (24 + 4 * LL.length) = nI ((8 * c + p) / 8)
      rw [hpl8, e21, pk_un (by omega), e20, pk_un (by omega), e19, pk_un (by omega), e18, pk_us]
    · show f21 (24 + 4 * LL.length + 1) = nI ((8 * c + p) % 8)
      rw [hpl9, e21, pk_un (by omega), e20, pk_un (by omega), e19, pk_us]
    · rw [e21, pk_un (by omega), e20, pk_us]
    · rw [e21, pk_us]
theorem cs_open (hB : B ≤ 600) (hv1 : vp_in (x3 + 1) L) (hv2 : vp_in (x3 + 2) L) (hv3 : vp_in (x3 + 3) L) (hI : Inv B ec n0 r0 s n1 r1 n2 r2 n3 r3 f g sm em) (hJ : Goes9 B (x3 + 5) J) : wc_198 L xs J x3 ec a0 n0 r0 s a1 n1 r1 a2 n2 r2 a3 n3 r3 f g sm em hh := by
  rw [wc_198]
  refine ⟨hv1, hv2, hv3, ?_⟩
  generalize xs (x3 + 1).toNatClampNeg = x
  generalize xs (x3 + 2).toNatClampNeg = y
  generalize xs (x3 + 3).toNatClampNeg = v
  rw [wp_X8_open]
  rcases place_cases x y with h | ⟨c, p, hc, hp, rfl, rfl⟩
  · refine x_isPlace_out h ⟨fun _ => x_fail fc2 ⟨hv1, hv2, hv3, ?_⟩, fun z => absurd rfl z⟩
    rw [wp_X9_open]
    exact m_isPort_out h ⟨fun _ => m_fails fc2 ⟨fun _ => hJ _ _ _ _ _ _ _ _ _ _ _ _ _ _ _ _ _ _ _ (hI.err (by decide)), fun y => y rfl⟩, fun z => absurd rfl z⟩
  refine x_isPlace_in hc hp ⟨fun z => absurd z one_ne, fun _ => ?_⟩
  rcases rng (x := v) (lo := 64) (hi := 9999) (l := 64) (h := 9999) rfl rfl (by decide) (by decide) with h | ⟨w, hw1, hw2, rfl⟩
  · refine x_within_out h ⟨fun z => absurd rfl z, fun _ => x_fail fc2 ⟨hv1, hv2, hv3, ?_⟩⟩
    rw [wp_X9_open]
    exact m_isPort_in hc hp ⟨fun z => absurd z one_ne, fun _ => m_within_out h ⟨fun z => absurd rfl z, fun _ => m_fails fc2 ⟨fun _ => hJ _ _ _ _ _ _ _ _ _ _ _ _ _ _ _ _ _ _ _ (hI.err (by decide)), fun y => y rfl⟩⟩⟩
  obtain ⟨s9, hs9, rfl, rfl, he, hS, hP9⟩ := id hI
  obtain ⟨t, ky, O, Q, q, z, cr, sv, LL, U, pt, gt, ⟨h1, h2, h3⟩, ⟨k1, k2, k3⟩, ⟨o1, o2⟩, hw, ⟨g1, g2, g3⟩, ⟨e1, e2, e3, e4⟩, ⟨p1, p2, p3, p4, p5⟩, ⟨u1, u2, u3, u4⟩, ⟨s1, s2, s3, s4⟩⟩ := id hS
  refine x_within_in (l := 64) (h := 9999) rfl rfl rfl hw1 hw2 (by decide) ⟨fun _ => x_placeOf (x_isConnected p1 p3 (by omega) (fun hq => ⟨fun _ => x_save hs9 hS hP9 (fun a1' n1' r1' a2' n2' r2' a3' n3' r3' hg => ?_), fun y => absurd rfl y⟩) (fun hq => ⟨fun y => absurd y one_ne, fun _ => x_fail fc3 ⟨hv1, hv2, hv3, ?_⟩⟩)), fun y => absurd y one_ne⟩
  · have hl4 := e4.1.1
    have hplb : ∀ e ∈ LL, e.1 < 128 := fun e h => (e4.1.2.2 e h).1
    have hm : t % 16 < 16 := Nat.mod_lt _ (by decide)
    rw [wp_X6_currentEpoch, h2, ep_eq (by omega), k2, e2]
    refine x_floorMod (d := 32) (by omega) (by decide) (by decide) (x_optionForWish hw1 (by omega) (fun o ho9 => ?_))
    rw [wp_X0_make]
    have ho8 := ho9.1
    refine x_mark k1 (by omega) (by omega) ho8 ?_
    have hck : ((nI (t / 64 % 32) * 8) + nI o) * 4096 + nI (markN ky (8 * c + p) (t / 64 % 32) o) = nI (ckN ky (8 * c + p) (t / 64) o) := by
      rw [show (8 : Int32) = nI 8 from rfl, show (4096 : Int32) = nI 4096 from rfl, pk_mul, nI_add, pk_mul, nI_add]
      unfold ckN
      congr 1
      omega
    rw [hck]
    have hcl := ckN_lt (ky := ky) (pl := 8 * c + p) (ep := t / 64) ho8
    refine x_countAt g1 (by omega) (fun b0 hb0 => x_total hb0 ?_)
    have hsa := sm_addAt O hm
    rw [hsa, show (12 : Int32) = nI 12 from rfl, nI_leI (by decide) (by omega)]
    have fin : ∀ (L' : List Ent) (f' : Nat → Int32) (b1 b2 b3 : Nat → Int32), R3 L' b1 b2 b3 → EI2 L' t → KeepO f f' → OM (addAt O (t % 16)) f' → EM L' f' → Sim (B + 1) (upd n0 4 (nI L'.length)) (va_up (va_up (va_up (va_up r0 0 b0) 1 b1) 2 b2) 3 b3) f' := fun L' f' b1 b2 b3 hR hE hko hO' hE' => ⟨t, ky, addAt O (t % 16), Q, q, z, cr, sv, L', U, pt, gt, ⟨by omega, h2, by rw [hko 0 (by omega) (by omega)]; exact h3⟩, ⟨k1, k2, by rw [hko 1 (by omega) (by omega)]; exact k3⟩, ⟨o1, by rw [hko 2 (by omega) (by omega)]; exact o2⟩, by rw [hko 5 (by omega) (by omega)]; exact hw, ⟨hb0, hO', by omega⟩, ⟨hR, rfl, hE', hE⟩, ⟨p1, p2.out (fun j _ _ => hko j (by omega) (by omega)), p3, p4, p5⟩, ⟨u1, u2, u3.out u4.1 (hko 4 (by omega) (by omega)) (fun j _ _ => hko j (by omega) (by omega)), u4⟩, ⟨s1, s2.out s3 (hko 6 (by omega) (by omega)) (hko 7 (by omega) (by omega)) (fun j _ _ => hko j (by omega) (by omega)), s3, by omega⟩⟩
    have run : ∀ (m : Nat) (may : Int32), may = nI m → m ≤ 1 → (m = 0 ↔ 12 ≤ fb_sm O 16 + 1) → wp_X1_keep (r0 1) (r0 2) (r0 3) (nI LL.length) (nI (8 * c + p)) (nI (ckN ky (8 * c + p) (t / 64) o)) (nI t) may (fun b1 b2 b3 s4 => (vp_in (x3 + 1) L ∧ (vp_in (x3 + 2) L ∧ (vp_in (x3 + 3) L ∧ (wp_X9_open f g (nI s9) em hh (nI c) (nI p) (nI w) (fun (v15 : Int32) (g16 : Nat → Int32) (g17 : Nat → Int32) (s18 : Int32) (g19 : Nat → Int32) => ((nI (ckN ky (8 * c + p) (t / 64) o) = v15 → J (x3 + 5) ec a0 (upd n0 4 s4) (va_up (va_up (va_up (va_up r0 0 b0) 1 b1) 2 b2) 3 b3) (nI (nxt s9)) a1' n1' r1' a2' n2' r2' a3' n3' r3' g16 g17 s18 g19 hh) ∧ (¬ (nI (ckN ky (8 * c + p) (t / 64) o) = v15) → False)))))))) := fun m may hmay hm1 hm0 => by
      refine x_keep e1 hl4 hplb (by omega) hmay hm1 (fun i e hi hei b1 b2 b3 hR => ⟨hv1, hv2, hv3, ?_⟩) (fun hn hor => ⟨hv1, hv2, hv3, ?_⟩) (fun hn hm2 hlt b1 b2 b3 hR => ⟨hv1, hv2, hv3, ?_⟩)
      · refine m_open hc hp hw1 hw2 ho9 (by omega) h3 k1 k3 g2 (by omega) e3 e4 hs9 p2 p3 hq (fun j d hj hd f' g' hg' hko hO' hE' => ?_) (fun hn => absurd hei (hn e (List.mem_of_getElem? hi))) (fun hn => absurd hei (hn e (List.mem_of_getElem? hi)))
        have ij := e4.1.2.1 i j e d hi hj (by omega)
        subst ij
        have := fin _ f' b1 b2 b3 hR (e4.wr hi hei (by omega) hcl) hko hO' hE'
        rw [List.length_set] at this
        exact ⟨fun _ => hJ _ _ _ _ _ _ _ _ _ _ _ _ _ _ _ _ _ _ _ (Inv.after he this (hg g' hg')), fun y => y rfl⟩
      · refine m_open hc hp hw1 hw2 ho9 (by omega) h3 k1 k3 g2 (by omega) e3 e4 hs9 p2 p3 hq (fun j d hj hd => absurd hd (hn d (List.mem_of_getElem? hj))) (fun _ hor2 f' g' hg' hko hO' hE' => ?_) (fun _ x1 x2 => ?_)
        · exact ⟨fun _ => hJ _ _ _ _ _ _ _ _ _ _ _ _ _ _ _ _ _ _ _ (Inv.after he (fin _ f' _ _ _ e1 e4 hko hO' hE') (hg g' hg')), fun y => y rfl⟩
        · rcases hor with x | x
          · exact absurd (hm0.mp x) x1
          · omega
      · refine m_open hc hp hw1 hw2 ho9 (by omega) h3 k1 k3 g2 (by omega) e3 e4 hs9 p2 p3 hq (fun j d hj hd => absurd hd (hn d (List.mem_of_getElem? hj))) (fun _ hor2 => ?_) (fun _ x1 x2 f' g' hg' hko hO' hE' => ?_)
        · rcases hor2 with x | x
          · have := hm0.mpr x; omega
          · omega
        · exact ⟨fun _ => hJ _ _ _ _ _ _ _ _ _ _ _ _ _ _ _ _ _ _ _ (Inv.after he (fin _ f' b1 b2 b3 hR (e4.add hlt hn (by omega) hcl) hko hO' hE') (hg g' hg')), fun y => y rfl⟩
    exact ⟨fun x => run 0 0 rfl (by decide) ⟨fun _ => x, fun _ => rfl⟩, fun x => run 1 1 rfl (by decide) ⟨fun y => absurd y (by decide), fun y => absurd y x⟩⟩
  · rw [wp_X9_open]
    exact m_isPort_in hc hp ⟨fun z => absurd z one_ne, fun _ => m_within_in (l := 64) (h := 9999) rfl rfl rfl hw1 hw2 (by decide) ⟨fun _ => m_isConnected p2 p3 hc hp (fun x => by omega) (fun _ => ⟨fun y => absurd y one_ne, fun _ => m_fails fc3 ⟨fun _ => hJ _ _ _ _ _ _ _ _ _ _ _ _ _ _ _ _ _ _ _ (hI.err (by decide)), fun y => y rfl⟩⟩), fun z => absurd z one_ne⟩⟩
end CS5
