/-! pure facts: the relation of the two states; saving -/
def EI2 (L : List Ent) (t : Nat) : Prop := EI L t ∧ ∀ e ∈ L, t < e.2.2 + 20
def UI (U : List Use) (t : Nat) : Prop := U.length ≤ 20 ∧ ∀ e ∈ U, e.1 < 128 ∧ e.2 < 1048576 ∧ ageN (t / 64) e.2 ≤ 1
/-- the class's ints n and rows r stand for the same as the model's row f; B bounds the calls so far -/
def Sim (B : Nat) (n : Nat → Int32) (r : Nat → Nat → Int32) (f : Nat → Int32) : Prop := ∃ (t ky : Nat) (O Q q z cr sv : Nat → Nat) (L : List Ent) (U : List Use) (pt gt : Nat),
  (t ≤ 1000 * B ∧ n 0 = nI t ∧ f 0 = nI t) ∧ (ky ≤ 65520 ∧ n 1 = nI ky ∧ f 1 = nI ky) ∧ ((n 2 = -1 ∨ ∃ k2 : Nat, k2 ≤ 65520 ∧ n 2 = nI k2) ∧ f 2 = n 2) ∧ f 5 = n 3 ∧
  (OC O (r 0) ∧ OM O f ∧ fb_sm O 16 ≤ B) ∧ (R3 L (r 1) (r 2) (r 3) ∧ n 4 = nI L.length ∧ EM L f ∧ EI2 L t) ∧
  (PC Q (r 4) ∧ PM Q f ∧ (∀ j, j < 128 → Q j ≤ 8) ∧ n 5 = nI (cntP Q) ∧ cntP Q ≤ 10) ∧ (R2 U (r 5) (r 6) ∧ n 6 = nI U.length ∧ UM U f ∧ UI U t) ∧
  (SrvC q z cr sv pt gt (r 7) (r 8) (r 9) (r 10) (n 7) (n 8) (n 9) ∧ SrvM q z cr sv pt gt f ∧ SrvI q z cr sv pt gt ∧ tot q z sv ≤ 9 * B)
theorem Sim.mono {B B' : Nat} {n : Nat → Int32} {r : Nat → Nat → Int32} {f : Nat → Int32} (h : Sim B n r f) (hb : B ≤ B') : Sim B' n r f := by
  obtain ⟨t, ky, O, Q, q, z, cr, sv, L, U, pt, gt, ⟨h1, h2, h3⟩, hk, ho, hw, ⟨g1, g2, g3⟩, hE, hP, hU, ⟨s1, s2, s3, s4⟩⟩ := h
  exact ⟨t, ky, O, Q, q, z, cr, sv, L, U, pt, gt, ⟨by omega, h2, h3⟩, hk, ho, hw, ⟨g1, g2, by omega⟩, hE, hP, hU, ⟨s1, s2, s3, by omega⟩⟩
def Cp (n : Nat → Int32) (r : Nat → Nat → Int32) (n' : Nat → Int32) (r' : Nat → Nat → Int32) : Prop :=
  (∀ k, k < 10 → n' k = n k) ∧ (∀ j, j < 16 → r' 0 j = r 0 j) ∧ (∀ j, j < 4 → r' 1 j = r 1 j ∧ r' 2 j = r 2 j ∧ r' 3 j = r 3 j) ∧ (∀ j, j < 128 → r' 4 j = r 4 j) ∧ (∀ j, j < 20 → r' 5 j = r 5 j ∧ r' 6 j = r 6 j) ∧ (∀ j, j < 128 → r' 7 j = r 7 j) ∧ (∀ j, j < 16 → r' 8 j = r 8 j ∧ r' 9 j = r 9 j ∧ r' 10 j = r 10 j)
theorem Sim.cp {B : Nat} {n n' : Nat → Int32} {r r' : Nat → Nat → Int32} {f f' : Nat → Int32} (h : Sim B n r f) (hc : Cp n r n' r') (hf : ∀ j, j < 404 → f' j = f j) : Sim B n' r' f' := by
  obtain ⟨t, ky, O, Q, q, z, cr, sv, L, U, pt, gt, ⟨h1, h2, h3⟩, ⟨k1, k2, k3⟩, ⟨o1, o2⟩, hw, ⟨g1, g2, g3⟩, ⟨e1, e2, e3, e4⟩, ⟨p1, p2, p3, p4, p5⟩, ⟨u1, u2, u3, u4⟩, ⟨s1, s2, s3, s4⟩⟩ := h
  obtain ⟨c0, c1, c2, c3, c4, c5, c6⟩ := hc
  have hl4 := e4.1.1
  have hl20 := u4.1
  refine ⟨t, ky, O, Q, q, z, cr, sv, L, U, pt, gt, ⟨h1, by rw [c0 0 (by decide)]; exact h2, by rw [hf 0 (by decide)]; exact h3⟩, ⟨k1, by rw [c0 1 (by decide)]; exact k2, by rw [hf 1 (by decide)]; exact k3⟩, ⟨by rw [c0 2 (by decide)]; exact o1, by rw [c0 2 (by decide), hf 2 (by decide)]; exact o2⟩, by rw [c0 3 (by decide), hf 5 (by decide)]; exact hw,
    ⟨fun j hj => by rw [c1 j hj]; exact g1 j hj, g2.out (fun j _ _ => hf j (by omega)), g3⟩, ⟨fun j e hj => ?_, by rw [c0 4 (by decide)]; exact e2, e3.out hl4 (hf 3 (by decide)) (fun j _ _ => hf j (by omega)), e4⟩,
    ⟨fun j hj => by rw [c3 j hj]; exact p1 j hj, fun j hj => by rw [hf _ (by omega)]; exact p2 j hj, p3, by rw [c0 5 (by decide)]; exact p4, p5⟩, ⟨fun j e hj => ?_, by rw [c0 6 (by decide)]; exact u2, u3.out hl20 (hf 4 (by decide)) (fun j _ _ => hf j (by omega)), u4⟩, ⟨?_, ?_, s3, s4⟩⟩
  · have := (List.getElem?_eq_some_iff.mp hj).1
    obtain ⟨a, b, c⟩ := c2 j (by omega)
    rw [a, b, c]; exact e1 j e hj
  · have := (List.getElem?_eq_some_iff.mp hj).1
    obtain ⟨a, b⟩ := c4 j (by omega)
    rw [a, b]; exact u1 j e hj
  · obtain ⟨a1, a2, a3, a4, a5, a6, a7⟩ := s1
    refine ⟨fun i hi => by rw [(c6 i hi).1]; exact a1 i hi, fun i k hi hk => ?_, fun i hi => by rw [(c6 i hi).2.1]; exact a3 i hi, fun i hi => by rw [(c6 i hi).2.2]; exact a4 i hi, by rw [c0 7 (by decide)]; exact a5, by rw [c0 8 (by decide)]; exact a6, by rw [c0 9 (by decide)]; exact a7⟩
    have := s3.1 i hi
    rw [c5 _ (by omega)]; exact a2 i k hi hk
  · obtain ⟨a1, a2, a3, a4, a5, a6⟩ := s2
    refine ⟨fun i hi => by rw [hf _ (by omega)]; exact a1 i hi, fun i k hi hk => ?_, fun i hi => by rw [hf _ (by omega)]; exact a3 i hi, fun i hi => by rw [hf _ (by omega)]; exact a4 i hi, by rw [hf 6 (by decide)]; exact a5, by rw [hf 7 (by decide)]; exact a6⟩
    have := s3.1 i hi
    rw [hf _ (by omega)]; exact a2 i k hi hk
theorem Cp.rf {n : Nat → Int32} {r : Nat → Nat → Int32} : Cp n r n r := ⟨fun _ _ => rfl, fun _ _ => rfl, fun _ _ => ⟨rfl, rfl, rfl⟩, fun _ _ => rfl, fun _ _ => ⟨rfl, rfl⟩, fun _ _ => rfl, fun _ _ => ⟨rfl, rfl, rfl⟩⟩
theorem cpy_at {a b : Nat → Int32} {N j : Nat} (h : j < N) : va_cpy a b 0 0 N j = a j := by
  rw [pk_cpy_in (by omega) (by omega)]
  rw [Nat.zero_add, Nat.sub_zero]
theorem bool_ok {x : Int32} (h : x = 0 ∨ x = 1) : narrow .boolean (.int x) = .int x ∧ fits .boolean (.int x) = true := by
  rcases h with rfl | rfl
  · exact ⟨rfl, rfl⟩
  · exact ⟨rfl, rfl⟩
theorem up10 {n n1 : Nat → Int32} {x4 x5 x6 x7 x8 x9 : Int32} (h4 : x4 = n1 4) (h5 : x5 = n1 5) (h6 : x6 = n1 6) (h7 : x7 = n1 7) (h8 : x8 = n1 8) (h9 : x9 = n1 9) : ∀ k, k < 10 → (upd (upd (upd (upd (upd (upd (upd (upd (upd (upd n 0 (n1 0)) 1 (n1 1)) 2 (n1 2)) 3 (n1 3)) 4 x4) 5 x5) 6 x6) 7 x7) 8 x8) 9 x9) k = n1 k := by
  subst h4; subst h5; subst h6; subst h7; subst h8; subst h9
  intro k hk
  match k, hk with
  | 0, _ => rfl
  | 1, _ => rfl
  | 2, _ => rfl
  | 3, _ => rfl
  | 4, _ => rfl
  | 5, _ => rfl
  | 6, _ => rfl
  | 7, _ => rfl
  | 8, _ => rfl
  | 9, _ => rfl
theorem x_copyFrom {n0 n1 : Nat → Int32} {r0 r1 : Nat → Nat → Int32} (hb : n1 9 = 0 ∨ n1 9 = 1) {K : (Nat → Int32) → (Nat → Nat → Int32) → Prop} (k : ∀ n' r', Cp n1 r1 n' r' → K n' r') : wp_X6_copyFrom n0 r0 n1 r1 K := by
  rw [wp_X6_copyFrom, wp_X3_copyFrom]
  intro g1 e1
  rw [wp_X1_copyFrom]
  intro g2 e2 g3 e3 g4 e4
  rw [wp_X4_copyFrom]
  intro g6 e6
  rw [wp_X7_copyFrom]
  intro g8 e8 g9 e9
  rw [wp_X5_copyFrom]
  intro g11 e11 g12 e12 g13 e13 g14 e14
  refine ⟨bool_ok hb, k _ _ ⟨up10 rfl rfl rfl rfl rfl rfl, fun j hj => ?_, fun j hj => ⟨?_, ?_, ?_⟩, fun j hj => ?_, fun j hj => ⟨?_, ?_⟩, fun j hj => ?_, fun j hj => ⟨?_, ?_, ?_⟩⟩⟩
  · show g1 j = _; rw [e1, cpy_at hj]
  · show g2 j = _; rw [e2, cpy_at hj]
  · show g3 j = _; rw [e3, cpy_at hj]
  · show g4 j = _; rw [e4, cpy_at hj]
  · show g6 j = _; rw [e6, cpy_at hj]
  · show g8 j = _; rw [e8, cpy_at hj]
  · show g9 j = _; rw [e9, cpy_at hj]
  · show g11 j = _; rw [e11, cpy_at hj]
  · show g12 j = _; rw [e12, cpy_at hj]
  · show g13 j = _; rw [e13, cpy_at hj]
  · show g14 j = _; rw [e14, cpy_at hj]
def nxt (s : Nat) : Nat := if s < 3 then s + 1 else 3
def SavedM (s : Nat) (f g g' : Nat → Int32) : Prop := (s < 3 → (∀ j, j < 404 → g' (404 * s + j) = f j) ∧ ∀ j, j < 404 * s → g' j = g j) ∧ (s = 3 → (∀ j, j < 404 → g' (808 + j) = f j) ∧ ∀ j, j < 808 → g' j = g (j + 404))
def Past (B s : Nat) (n1 : Nat → Int32) (r1 : Nat → Nat → Int32) (n2 : Nat → Int32) (r2 : Nat → Nat → Int32) (n3 : Nat → Int32) (r3 : Nat → Nat → Int32) (g : Nat → Int32) : Prop :=
  (0 < s → Sim B n1 r1 g) ∧ (1 < s → Sim B n2 r2 (fun j => g (404 + j))) ∧ (2 < s → Sim B n3 r3 (fun j => g (808 + j)))
theorem Past.mono {B B' s : Nat} {n1 : Nat → Int32} {r1 : Nat → Nat → Int32} {n2 : Nat → Int32} {r2 : Nat → Nat → Int32} {n3 : Nat → Int32} {r3 : Nat → Nat → Int32} {g : Nat → Int32} (h : Past B s n1 r1 n2 r2 n3 r3 g) (hb : B ≤ B') : Past B' s n1 r1 n2 r2 n3 r3 g := ⟨fun x => (h.1 x).mono hb, fun x => (h.2.1 x).mono hb, fun x => (h.2.2 x).mono hb⟩
theorem Sim.bool {B : Nat} {n : Nat → Int32} {r : Nat → Nat → Int32} {f : Nat → Int32} (h : Sim B n r f) : n 9 = 0 ∨ n 9 = 1 := by
  obtain ⟨t, ky, O, Q, q, z, cr, sv, L, U, pt, gt, -, -, -, -, -, -, -, -, ⟨s1, -, s3, -⟩⟩ := h
  have h6 := s3.2.2.2.2.2.1
  rw [s1.2.2.2.2.2.2]
  rcases Nat.lt_or_ge gt 1 with x | x
  · have : gt = 0 := by omega
    subst this; exact Or.inl rfl
  · have : gt = 1 := by omega
    subst this; exact Or.inr rfl
abbrev KV : Type := Int32 → (Nat → Nat) → (Nat → Int32) → (Nat → Nat → Int32) → (Nat → Nat) → (Nat → Int32) → (Nat → Nat → Int32) → (Nat → Nat) → (Nat → Int32) → (Nat → Nat → Int32) → Prop
theorem x_save {B s : Nat} (hs : s ≤ 3) {n0 n1 n2 n3 : Nat → Int32} {r0 r1 r2 r3 : Nat → Nat → Int32} {a1 a2 a3 : Nat → Nat} {f g : Nat → Int32} (h0 : Sim B n0 r0 f) (hp : Past B s n1 r1 n2 r2 n3 r3 g) {K : KV}
    (k : ∀ (a1' : Nat → Nat) (n1' : Nat → Int32) (r1' : Nat → Nat → Int32) (a2' : Nat → Nat) (n2' : Nat → Int32) (r2' : Nat → Nat → Int32) (a3' : Nat → Nat) (n3' : Nat → Int32) (r3' : Nat → Nat → Int32), (∀ g', SavedM s f g g' → Past B (nxt s) n1' r1' n2' r2' n3' r3' g') → K (nI (nxt s)) a1' n1' r1' a2' n2' r2' a3' n3' r3') : wp_X2_save (nI s) a1 n1 r1 a2 n2 r2 a3 n3 r3 n0 r0 K := by
  have hb := h0.bool
  have keep : ∀ {m : Nat → Int32} {w : Nat → Nat → Int32} {u u' : Nat → Int32}, Sim B m w u → (∀ j, j < 404 → u' j = u j) → Sim B m w u' := fun h e => h.cp Cp.rf e
  rw [wp_X2_save]
  have e3 : (3 : Int32) = nI 3 := rfl
  match s, hs with
  | 0, _ =>
    refine ⟨fun _ => ⟨Or.inl rfl, fun _ => x_copyFrom hb (fun n' r' hc => k _ _ _ _ _ _ _ _ _ (fun g' hg => ⟨fun _ => ?_, fun x => absurd x (by decide), fun x => absurd x (by decide)⟩)), fun x => absurd x (by decide), fun x => absurd x (by decide)⟩, fun x => absurd (by decide) x⟩
    exact h0.cp hc (fun j hj => by have := (hg.1 (by decide)).1 j hj; rw [Nat.mul_zero, Nat.zero_add] at this; exact this)
  | 1, _ =>
    refine ⟨fun _ => ⟨Or.inr (Or.inl rfl), fun x => absurd x (by decide), fun _ => x_copyFrom hb (fun n' r' hc => k _ _ _ _ _ _ _ _ _ (fun g' hg => ⟨fun _ => ?_, fun _ => ?_, fun x => absurd x (by decide)⟩)), fun x => absurd x (by decide)⟩, fun x => absurd (by decide) x⟩
    · exact keep (hp.1 (by decide)) (fun j hj => (hg.1 (by decide)).2 j (by omega))
    · exact h0.cp hc (fun j hj => (hg.1 (by decide)).1 j hj)
  | 2, _ =>
    refine ⟨fun _ => ⟨Or.inr (Or.inr rfl), fun x => absurd x (by decide), fun x => absurd x (by decide), fun _ => x_copyFrom hb (fun n' r' hc => k _ _ _ _ _ _ _ _ _ (fun g' hg => ⟨fun _ => ?_, fun _ => ?_, fun _ => ?_⟩))⟩, fun x => absurd (by decide) x⟩
    · exact keep (hp.1 (by decide)) (fun j hj => (hg.1 (by decide)).2 j (by omega))
    · exact keep (hp.2.1 (by decide)) (fun j hj => (hg.1 (by decide)).2 (404 + j) (by omega))
    · exact h0.cp hc (fun j hj => (hg.1 (by decide)).1 j hj)
  | 3, _ =>
    refine ⟨fun x => absurd x (by decide), fun _ => x_copyFrom hb (fun n' r' hc => k _ _ _ _ _ _ _ _ _ (fun g' hg => ⟨fun _ => ?_, fun _ => ?_, fun _ => ?_⟩))⟩
    · exact keep (hp.2.1 (by decide)) (fun j hj => by rw [(hg.2 rfl).2 j (by omega), Nat.add_comm])
    · exact keep (hp.2.2 (by decide)) (fun j hj => by
        show g' (404 + j) = g (808 + j)
        rw [(hg.2 rfl).2 (404 + j) (by omega), show 404 + j + 404 = 808 + j by omega])
    · exact h0.cp hc (fun j hj => (hg.2 rfl).1 j hj)
theorem m_saves_loop1 {f e : Nat → Int32} {hh : Int64} {s : Nat} (hs : s ≤ 2) {g0 : Nat → Int32} {K : (Nat → Int32) → Int32 → Prop} (k : ∀ g', (∀ j, j < 404 → g' (404 * s + j) = f j) → (∀ j, j < 404 * s → g' j = g0 j) → K g' (nI (s + 1))) : ∀ (n i : Nat) (g : Nat → Int32), i + n = 405 → i ≤ 404 → (∀ j, j < i → g (404 * s + j) = f j) → (∀ j, j < 404 * s → g j = g0 j) → wpl_X9_saves_51 f e hh K n (nI i) g (nI s) := by
  intro n
  induction n with
  | zero => intro i g h1 h2; omega
  | succ n ih =>
    intro i g h1 h2 ha hb
    rw [wpl_X9_saves_51]
    rcases Nat.lt_or_ge i 404 with q | q
    · refine ⟨fun z => absurd z (by rw [show (404 : Int32) = nI 404 from rfl, nI_leI (by decide) (by omega)]; omega), fun _ => ?_⟩
      rw [show (404 : Int32) = nI 404 from rfl, pk_mul, nI_add]
      refine ⟨vp_in_nI q (by decide), vp_in_nI (by omega) (by decide), fun f3 e3 => ?_⟩
      rw [nI_clamp (by omega), nI_clamp (by omega)] at e3
      rw [nI_1]
      subst e3
      refine ih (i + 1) _ (by omega) (by omega) (fun j hj => ?_) (fun j hj => ?_)
      · by_cases x : j = i
        · subst x; rw [pk_us]
        · rw [pk_un (by omega)]; exact ha j (by omega)
      · rw [pk_un (by omega)]; exact hb j hj
    · have : i = 404 := by omega
      subst this
      refine ⟨fun _ => ?_, fun z => absurd (by decide) z⟩
      rw [nI_1]
      exact k g ha hb
theorem m_saves_loop0 {f e : Nat → Int32} {hh : Int64} {g0 : Nat → Int32} {K : (Nat → Int32) → Int32 → Prop} (k : ∀ g', (∀ j, j < 404 → g' (808 + j) = f j) → (∀ j, j < 808 → g' j = g0 (j + 404)) → K g' (nI 3)) : ∀ (n i : Nat) (g : Nat → Int32), i + n = 809 → i ≤ 808 → (∀ j, j < i → g j = g0 (j + 404)) → (∀ j, i ≤ j → g j = g0 j) → wpl_X9_saves_10 f e hh K n (nI i) g (nI 3) := by
  intro n
  induction n with
  | zero => intro i g h1 h2; omega
  | succ n ih =>
    intro i g h1 h2 ha hb
    rw [wpl_X9_saves_10]
    rcases Nat.lt_or_ge i 808 with q | q
    · refine ⟨fun z => absurd z (by rw [show (808 : Int32) = nI 808 from rfl, nI_leI (by decide) (by omega)]; omega), fun _ => ?_⟩
      rw [show (404 : Int32) = nI 404 from rfl, nI_add]
      refine ⟨vp_in_nI (by omega) (by decide), vp_in_nI (by omega) (by decide), fun f3 e3 => ?_⟩
      rw [nI_clamp (by omega), nI_clamp (by omega)] at e3
      rw [nI_1]
      subst e3
      refine ih (i + 1) _ (by omega) (by omega) (fun j hj => ?_) (fun j hj => ?_)
      · by_cases x : j = i
        · subst x; rw [pk_us]; exact hb (j + 404) (by omega)
        · rw [pk_un x]; exact ha j (by omega)
      · rw [pk_un (by omega)]; exact hb j (by omega)
    · have : i = 808 := by omega
      subst this
      refine ⟨fun _ => ⟨405, ?_⟩, fun z => absurd (by decide) z⟩
      rw [show nI 3 - 1 = nI 2 from rfl]
      exact m_saves_loop1 (s := 2) (g0 := g) (by decide) (fun g' h3 h4 => k g' h3 (fun j hj => by rw [h4 j (by omega)]; exact ha j hj)) 405 0 g (by omega) (by omega) (fun j hj => by omega) (fun j _ => rfl)
theorem m_saves {f g e : Nat → Int32} {hh : Int64} {s : Nat} (hs : s ≤ 3) {K : (Nat → Int32) → Int32 → Prop} (k : ∀ g', SavedM s f g g' → K g' (nI (nxt s))) : wp_X9_saves f g (nI s) e hh K := by
  rw [wp_X9_saves, show (3 : Int32) = nI 3 from rfl, nI_eq (by omega) (by decide)]
  refine ⟨fun x => ⟨405, m_saves_loop1 (s := s) (g0 := g) (by omega) (fun g' h3 h4 => ?_) 405 0 g (by omega) (by omega) (fun j hj => by omega) (fun j _ => rfl)⟩, fun x => ⟨809, ?_⟩⟩
  · have e1 : nxt s = s + 1 := by unfold nxt; rw [if_pos (by omega)]
    rw [e1] at k
    exact k g' ⟨fun _ => ⟨h3, h4⟩, fun y => absurd y x⟩
  · subst x
    exact m_saves_loop0 (g0 := g) (fun g' h3 h4 => k g' ⟨fun y => absurd y (by decide), fun _ => ⟨h3, h4⟩⟩) 809 0 g (by omega) (by omega) (fun j hj => by omega) (fun j _ => rfl)
