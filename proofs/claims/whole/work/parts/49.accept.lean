/-! the cases of the law: accepting, taking back -/
def markR (b : Nat) (m1 pv m2 us : Bool) : Int32 × Nat := if m1 = true then (if us = true then (-8, b + 1) else (0, b + 1)) else if pv = true then (if m2 = true then (if us = true then (-8, b + 2) else (0, b + 2)) else (-7, b + 2)) else (-7, b + 1)
def accN (ag d : Nat) (sol m1 pv m2 us : Bool) : Int32 × Nat := if 1 < ag then (-5, 0) else if d = 0 then markR 0 m1 pv m2 us else if sol = true then markR 1 m1 pv m2 us else (-6, 1)
def mkB (key pl ck : Nat) : Bool := decide (ck % 4096 = markN key pl (ck / 32768) (optN ck))
theorem jrem_ck {ck : Nat} (hck : ck < 1048576) : jrem (nI ck) 4096 = nI (ck % 4096) := jrem_nI (by omega) (by decide) (by decide)
theorem x_isMarked {key pl ck : Nat} (hk : key ≤ 65520) (hp : pl < 128) (hck : ck < 1048576) {K : Int32 → Prop} (k0 : mkB key pl ck = false → K 0) (k1 : mkB key pl ck = true → K 1) : wp_X0_isMarkedWith (nI key) (nI pl) (nI ck) K := by
  rw [wp_X0_isMarkedWith]
  have h1 := markN_lt key pl (ck / 32768) (optN ck)
  refine x_stampOf hck (x_optionOf hck (x_mark hk hp (by omega) (optN_lt ck) ?_))
  rw [jrem_ck hck, nI_eq (by omega) (by omega)]
  exact ⟨fun x => k0 (decide_eq_false x), fun x => k1 (decide_eq_true x)⟩
/-- the previous key: none, or one -/
def Prv (x : Int32) (pl ck : Nat) (pv m2 : Bool) : Prop := (x = -1 ∧ pv = false) ∨ (pv = true ∧ ∃ k2 : Nat, k2 ≤ 65520 ∧ x = nI k2 ∧ m2 = mkB k2 pl ck)
theorem Prv.of {x : Int32} (h : x = -1 ∨ ∃ k2 : Nat, k2 ≤ 65520 ∧ x = nI k2) (pl ck : Nat) : ∃ pv m2, Prv x pl ck pv m2 := by
  rcases h with h | ⟨k2, h1, h2⟩
  · exact ⟨false, false, Or.inl ⟨h, rfl⟩⟩
  · exact ⟨true, mkB k2 pl ck, Or.inr ⟨rfl, k2, h1, h2, rfl⟩⟩
theorem x_connect {Q : Nat → Nat} {ec n : Nat → Int32} {r : Nat → Nat → Int32} {pl ck : Nat} (h : PC Q (r 4)) (hn : n 5 = nI (cntP Q)) (hp : pl < 128) (hq : Q pl = 0) (hck : ck < 1048576) {K : Int32 → (Nat → Int32) → (Nat → Nat → Int32) → Prop} (k : ∀ b4, PC (nup Q pl (optN ck + 1)) b4 → K (nI (segN (optN ck))) (upd n 5 (nI (cntP (nup Q pl (optN ck + 1))))) (va_up r 4 b4)) : wp_X8_connect ec n r (nI pl) (nI ck) K := by
  rw [wp_X8_connect]
  refine x_optionOf hck ?_
  rw [wp_X4_connect, nI_clamp (by omega), hn, nI_1, show (1 : Int32) + nI (optN ck) = nI (optN ck + 1) by rw [show (1 : Int32) + nI (optN ck) = nI (1 + optN ck) from ix, Nat.add_comm]]
  refine ⟨vp_in_nI hp (by decide), fun b4 e4 => x_sizeOfOption (optN_lt ck) ?_⟩
  have hc := cnt_nup Q hp (optN ck + 1)
  rw [if_neg (by omega), if_pos (by omega)] at hc
  have e : cntP Q + 1 = cntP (nup Q pl (optN ck + 1)) := by omega
  rw [e]
  exact k b4 (by rw [e4]; exact PC_nup h)
theorem m_used_loop {U : List Use} {f g e9 : Nat → Int32} {s : Int32} {hh : Int64} (h : UM U f) (hl : U.length ≤ 20) (hb : ∀ e ∈ U, e.1 < 128 ∧ e.2 < 1048576) {c p ck : Nat} (hc : c < 16) (hp : p < 8) (hck : ck < 1048576) {x4 x5 : Int32} {K : Int32 → (Nat → Int32) → Prop} (k1 : (8 * c + p, ck) ∈ U → K (-8) f) (k0 : (8 * c + p, ck) ∉ U → K 0 f) : ∀ (n i : Nat), i + n = U.length + 1 → i ≤ U.length → (∀ (j : Nat) (e : Use), j < i → U[j]? = some e → e ≠ (8 * c + p, ck)) → wpl_X9_checks_159 g s e9 hh K n (nI c) (nI p) (nI ck) x4 x5 (nI i) f := by
  intro n
  induction n with
  | zero => intro i h1 h2; omega
  | succ n ih =>
    intro i h1 h2 hn
    rw [wpl_X9_checks_159, h.1]
    rcases Nat.lt_or_ge i U.length with q | q
    · have hi : U[i]? = some U[i] := List.getElem?_eq_getElem q
      have hm := hb _ (List.getElem_mem q)
      obtain ⟨g1, g2, g3⟩ := h.2 i _ hi
      have skip : U[i] ≠ (8 * c + p, ck) → wpl_X9_checks_159 g s e9 hh K n (nI c) (nI p) (nI ck) x4 x5 (nI i + 1) f := fun z => by
        rw [nI_1]
        refine ih (i + 1) (by omega) (by omega) (fun j e hj he => ?_)
        rcases Nat.lt_or_ge j i with y | y
        · exact hn j e y he
        · have : j = i := by omega
          subst this
          rw [hi] at he; cases he; exact z
      refine ⟨fun z => absurd z (by rw [nI_leI (by omega) (by omega)]; omega), fun _ => ?_⟩
      rw [show (168 : Int32) = nI 168 from rfl, show (3 : Int32) = nI 3 from rfl, show (2 : Int32) = nI 2 from rfl, pk_mul, nI_add, nI_add, show nI (168 + 3 * i) + 1 = nI (168 + 3 * i + 1) from nI_1 _, nI_clamp (by omega), nI_clamp (by omega), nI_clamp (by omega), g1, g2, g3, nI_eq (by omega) (by omega), nI_eq (by omega) (by omega), nI_eq (by omega) (by omega)]
      refine ⟨vp_in_nI (by omega) (by decide), fun z => skip (fun w => z (by rw [w])), fun z => ⟨vp_in_nI (by omega) (by decide), fun z2 => skip (fun w => z2 (by rw [w]; show (8 * c + p) / 8 = c; omega)), fun z2 => ⟨vp_in_nI (by omega) (by decide), fun z3 => skip (fun w => z3 (by rw [w]; show (8 * c + p) % 8 = p; omega)), fun z3 => k1 ?_⟩⟩⟩
      have : U[i] = (8 * c + p, ck) := Prod.ext (by show U[i].1 = 8 * c + p; omega) z
      rw [← this]; exact List.getElem_mem q
    · have : i = U.length := by omega
      subst this
      refine ⟨fun _ => k0 (fun hm => ?_), fun z => absurd (by rw [nI_leI (by omega) (by omega)]; omega) z⟩
      obtain ⟨j, hj⟩ := List.getElem?_of_mem hm
      exact hn j _ (List.getElem?_eq_some_iff.mp hj).1 hj rfl
theorem UM.add {U : List Use} {f f' : Nat → Int32} {e : Use} (h : UM U f) (h3 : f' 4 = nI (U.length + 1)) (a0 : f' (168 + 3 * U.length) = nI e.2) (a1 : f' (168 + 3 * U.length + 1) = nI (e.1 / 8)) (a2 : f' (168 + 3 * U.length + 2) = nI (e.1 % 8)) (ho : ∀ i, 168 ≤ i → i < 168 + 3 * U.length → f' i = f i) : UM (U ++ [e]) f' := by
  refine ⟨by rw [h3]; simp, fun i d hi => ?_⟩
  rcases Nat.lt_or_ge i U.length with q | q
  · rw [List.getElem?_append_left q] at hi
    have := h.2 i d hi
    rw [ho _ (by omega) (by omega), ho _ (by omega) (by omega), ho _ (by omega) (by omega)]
    exact this
  · rw [List.getElem?_append_right q] at hi
    have e0 : i - U.length = 0 := by
      have := (List.getElem?_eq_some_iff.mp hi).1
      simp only [List.length_cons, List.length_nil] at this; omega
    have e2 : i = U.length := by omega
    subst e2
    rw [e0] at hi
    cases hi
    exact ⟨a0, a1, a2⟩
theorem m_remembers {U : List Use} {f g e9 : Nat → Int32} {s : Int32} {hh : Int64} (h : UM U f) (hl : U.length ≤ 20) {c p ck : Nat} (hc : c < 16) (hp : p < 8) {K : (Nat → Int32) → Prop} (k : ∀ f', UM (addU U (8 * c + p, ck)) f' → SameOut 168 228 4 f f' → K f') : wp_X9_remembers f g s e9 hh (nI c) (nI p) (nI ck) K := by
  have hpl8 : (8 * c + p) / 8 = c := by omega
  have hpl9 : (8 * c + p) % 8 = p := by omega
  have wr : ∀ (V : List Use) (f0 : Nat → Int32), UM V f0 → V.length ≤ 19 → (∀ f', UM (V ++ [(8 * c + p, ck)]) f' → SameOut 168 228 4 f0 f' → K f') → (vp_in (168 + (3 * (f0 4))) 404 ∧ (∀ f2 : Nat → Int32, f2 = upd f0 (Int32.toNatClampNeg (168 + (3 * (f0 4)))) (nI ck) → (vp_in ((168 + (3 * (f0 4))) + 1) 404 ∧ (∀ f3 : Nat → Int32, f3 = upd f2 (Int32.toNatClampNeg ((168 + (3 * (f0 4))) + 1)) (nI c) → (vp_in ((168 + (3 * (f0 4))) + 2) 404 ∧ (∀ f4 : Nat → Int32, f4 = upd f3 (Int32.toNatClampNeg ((168 + (3 * (f0 4))) + 2)) (nI p) → (∀ f5 : Nat → Int32, f5 = upd f4 4 ((f4 4) + 1) → K f5))))))) := fun V f0 hV hlV kV => by
    rw [hV.1, show (168 : Int32) = nI 168 from rfl, show (3 : Int32) = nI 3 from rfl, show (2 : Int32) = nI 2 from rfl, pk_mul, nI_add, nI_add, show nI (168 + 3 * V.length) + 1 = nI (168 + 3 * V.length + 1) from nI_1 _, nI_clamp (by omega), nI_clamp (by omega), nI_clamp (by omega)]
    refine ⟨vp_in_nI (by omega) (by decide), fun f2 e2 => ⟨vp_in_nI (by omega) (by decide), fun f3 e3 => ⟨vp_in_nI (by omega) (by decide), fun f4 e4 f5 e5 => ?_⟩⟩⟩
    have h44 : f4 4 = nI V.length := by rw [e4, pk_un (by omega), e3, pk_un (by omega), e2, pk_un (by omega)]; exact hV.1
    rw [h44, nI_1] at e5
    have ho : ∀ i, i ≠ 4 → ¬ (168 + 3 * V.length ≤ i ∧ i < 168 + 3 * V.length + 3) → f5 i = f0 i := fun i a b => by rw [e5, pk_un a, e4, pk_un (by omega), e3, pk_un (by omega), e2, pk_un (by omega)]
    refine kV f5 (hV.add ?_ ?_ ?_ ?_ (fun i a b => ho i (by omega) (by omega))) (fun i a b => ho i a (by omega))
    · rw [e5, pk_us]
    · rw [e5, pk_un (by omega), e4, pk_un (by omega), e3, pk_un (by omega), e2, pk_us]
    · show f5 (168 + 3 * V.length + 1) = nI ((8 * c + p) / 8)
      rw [hpl8, e5, pk_un (by omega), e4, pk_un (by omega), e3, pk_us]
    · show f5 (168 + 3 * V.length + 2) = nI ((8 * c + p) % 8)
      rw [hpl9, e5, pk_un (by omega), e4, pk_us]
  rw [wp_X9_remembers]
  have h4 := h.1
  refine ⟨fun x => wr U f h ?_ (fun f' h1 h2 => k f' ?_ h2), fun x => ?_⟩
  · rcases Nat.lt_or_ge U.length 20 with q | q
    · omega
    · exact absurd (by rw [h4, show U.length = 20 by omega]; rfl) x
  · have e : addU U (8 * c + p, ck) = U ++ [(8 * c + p, ck)] := by
      unfold addU
      rw [if_pos]
      rcases Nat.lt_or_ge U.length 20 with q | q
      · exact q
      · exact absurd (by rw [h4, show U.length = 20 by omega]; rfl) x
    rw [e]; exact h1
  · rw [h4, show (20 : Int32) = nI 20 from rfl, nI_eq (by omega) (by decide)] at x
    refine m_dropU (k := 0) h hl (by omega) (fun g6 h6 hs6 => ?_)
    have e0 : U.eraseIdx 0 = U.drop 1 := by
      match U with
      | [] => rfl
      | _ :: _ => rfl
    rw [e0] at h6
    refine wr (U.drop 1) g6 h6 (by rw [List.length_drop]; omega) (fun f' h1 h2 => k f' ?_ (hs6.tr h2))
    have e : addU U (8 * c + p, ck) = U.drop 1 ++ [(8 * c + p, ck)] := by unfold addU; rw [if_neg (by omega)]
    rw [e]; exact h1
section MCK
variable {f g em : Nat → Int32} {s : Int32} {hh : Int64}
theorem ex5 {f f5 : Nat → Int32} {v : Int32} (e : f5 = upd f 5 v) : (∀ j, j ≠ 5 → f5 j = f j) ∧ f5 5 = v := ⟨fun j a => by rw [e, pk_un a], by rw [e, pk_us]⟩
theorem m_marks {b c p ck ky : Nat} {x4 : Int32} {U : List Use} {pv m2 us : Bool} {f5 : Nat → Int32} (h5 : ∀ j, j ≠ 5 → f5 j = f j) (h55 : f5 5 = f 5 + nI (b + 1)) (hc : c < 16) (hp : p < 8) (hck : ck < 1048576) (hk : ky ≤ 65520) (k3 : f 1 = nI ky) (hpv : Prv (f 2) (8 * c + p) ck pv m2) (u3 : UM U f) (hl : U.length ≤ 20) (hb : ∀ e ∈ U, e.1 < 128 ∧ e.2 < 1048576) (hus : us = true ↔ (8 * c + p, ck) ∈ U) {K : Int32 → (Nat → Int32) → Prop}
    (k : ∀ f', (∀ j, j ≠ 5 → f' j = f j) → f' 5 = f 5 + nI (markR b (mkB ky (8 * c + p) ck) pv m2 us).2 → K (markR b (mkB ky (8 * c + p) ck) pv m2 us).1 f') :
    (wp_X9_stampOf (nI ck) (fun (r6 : Int32) => (wp_X9_optionOf (nI ck) (fun (r7 : Int32) => (wp_X9_markOf (nI c) (nI p) r6 r7 (f5 1) (fun (r8 : Int32) => ((¬ (jrem (nI ck) 4096) = r8 → (((f5 2) = (-1) → K (-7) f5) ∧ (¬ ((f5 2) = (-1)) → (∀ f11 : Nat → Int32, f11 = upd f5 5 ((f5 5) + 1) → (wp_X9_stampOf (nI ck) (fun (r12 : Int32) => (wp_X9_optionOf (nI ck) (fun (r13 : Int32) => (wp_X9_markOf (nI c) (nI p) r12 r13 (f11 2) (fun (r14 : Int32) => ((¬ (jrem (nI ck) 4096) = r14 → K (-7) f11) ∧ ((jrem (nI ck) 4096) = r14 → (∃ n8 : Nat, wpl_X9_checks_159 g s em hh K n8 (nI c) (nI p) (nI ck) x4 1 0 f11))))))))))))) ∧ ((jrem (nI ck) 4096) = r8 → (∃ n8 : Nat, wpl_X9_checks_159 g s em hh K n8 (nI c) (nI p) (nI ck) x4 1 0 f5))))))))) := by
  have hmk := markN_lt ky (8 * c + p) (ck / 32768) (optN ck)
  have u5 : UM U f5 := u3.out hl (h5 4 (by omega)) (fun j _ _ => h5 j (by omega))
  refine m_stampOf hck (m_optionOf hck ?_)
  rw [h5 1 (by decide), k3]
  refine m_markOf hk hc hp (by omega) (optN_lt ck) ?_
  rw [jrem_ck hck, nI_eq (by omega) (by omega)]
  have run : ∀ (f9 : Nat → Int32), UM U f9 → (us = true → K (-8) f9) → (us = false → K 0 f9) → ∃ n8 : Nat, wpl_X9_checks_159 g s em hh K n8 (nI c) (nI p) (nI ck) x4 1 0 f9 := fun f9 hU9 q1 q0 =>
    ⟨U.length + 1, m_used_loop hU9 hl hb hc hp hck (fun hm => q1 (hus.mpr hm)) (fun hm => q0 (by cases us with | false => rfl | true => exact absurd (hus.mp rfl) hm)) _ 0 (by omega) (by omega) (fun j e hj => by omega)⟩
  refine ⟨fun x => ⟨fun y => ?_, fun y f11 e11 => ?_⟩, fun x => ?_⟩
  · have e1 : mkB ky (8 * c + p) ck = false := decide_eq_false x
    rw [h5 2 (by decide)] at y
    have e2 : pv = false := by
      rcases hpv with ⟨-, h⟩ | ⟨-, k2, h1, h2, -⟩
      · exact h
      · rw [h2] at y; exact absurd y (nI_nm1 (by omega))
    subst e2
    rw [e1] at k
    exact k f5 h5 h55
  · have e1 : mkB ky (8 * c + p) ck = false := decide_eq_false x
    rw [h5 2 (by decide)] at y
    rcases hpv with ⟨h, -⟩ | ⟨h, k2, hk2, ek2, em2⟩
    · exact absurd h y
    subst h
    rw [e1] at k
    obtain ⟨a1, a2⟩ := ex5 e11
    have h11 : ∀ j, j ≠ 5 → f11 j = f j := fun j a => (a1 j a).trans (h5 j a)
    have h115 : f11 5 = f 5 + nI (b + 2) := by
      rw [a2, h55, ← nI_1 (b + 1), ← nI_1 b]
      grind
    refine m_stampOf hck (m_optionOf hck ?_)
    rw [h11 2 (by decide), ek2]
    have hmk2 := markN_lt k2 (8 * c + p) (ck / 32768) (optN ck)
    refine m_markOf hk2 hc hp (by omega) (optN_lt ck) ?_
    rw [nI_eq (by omega) (by omega)]
    refine ⟨fun w => ?_, fun w => ?_⟩
    · have e2 : m2 = false := em2.trans (decide_eq_false w)
      subst e2
      exact k f11 h11 h115
    · have e2 : m2 = true := em2.trans (decide_eq_true w)
      subst e2
      refine run f11 (u5.out hl (a1 4 (by omega)) (fun j _ _ => a1 j (by omega))) (fun q => ?_) (fun q => ?_)
      · subst q; exact k f11 h11 h115
      · subst q; exact k f11 h11 h115
  · have e1 : mkB ky (8 * c + p) ck = true := decide_eq_true x
    rw [e1] at k
    refine run f5 u5 (fun q => ?_) (fun q => ?_)
    · subst q; exact k f5 h5 h55
    · subst q; exact k f5 h5 h55
theorem m_checks {c p ck so ky t : Nat} {O : Nat → Nat} {U : List Use} {sol pv m2 us : Bool} (hc : c < 16) (hp : p < 8) (hck : ck < 1048576) (hso : so < 1048576) (ht : t < 2 ^ 29) (h3 : f 0 = nI t) (hk : ky ≤ 65520) (k3 : f 1 = nI ky) (hpv : Prv (f 2) (8 * c + p) ck pv m2) (g2 : OM O f) (g3 : fb_sm O 16 < 2 ^ 20) (u3 : UM U f) (hl : U.length ≤ 20) (hb : ∀ e ∈ U, e.1 < 128 ∧ e.2 < 1048576) (hus : us = true ↔ (8 * c + p, ck) ∈ U) (hsol : sol = true ↔ digN ck so % 2 ^ difN (fb_sm O 16) = 0) {K : Int32 → (Nat → Int32) → Prop}
    (k : ∀ f', (∀ j, j ≠ 5 → f' j = f j) → f' 5 = f 5 + nI (accN (ageN (t / 64) ck) (difN (fb_sm O 16)) sol (mkB ky (8 * c + p) ck) pv m2 us).2 → K (accN (ageN (t / 64) ck) (difN (fb_sm O 16)) sol (mkB ky (8 * c + p) ck) pv m2 us).1 f') : wp_X9_checks f g s em hh (nI c) (nI p) (nI ck) (nI so) K := by
  rw [wp_X9_checks]
  have hag : ageN (t / 64) ck < 32 := Nat.mod_lt _ (by decide)
  have hd6 := difN_le (fb_sm O 16)
  refine m_ageOf h3 (by omega) hck ?_
  rw [show (1 : Int32) = nI 1 from rfl, nI_leI (by omega) (by decide)]
  refine ⟨fun x => m_difficulty g2 (by omega) ?_, fun x => ?_⟩
  · have ea : accN (ageN (t / 64) ck) (difN (fb_sm O 16)) sol (mkB ky (8 * c + p) ck) pv m2 us = if difN (fb_sm O 16) = 0 then markR 0 (mkB ky (8 * c + p) ck) pv m2 us else if sol = true then markR 1 (mkB ky (8 * c + p) ck) pv m2 us else (-6, 1) := by
      unfold accN; rw [if_neg (by omega)]
    rw [ea] at k
    rw [show (0 : Int32) = nI 0 from rfl, nI_leI (by omega) (by decide)]
    refine ⟨fun y f5 e5 => ?_, fun y f20 e20 => ?_⟩
    · rw [if_pos (by omega)] at k
      obtain ⟨a1, a2⟩ := ex5 e5
      exact m_marks (b := 0) a1 a2 hc hp hck hk k3 hpv u3 hl hb hus k
    · rw [if_neg (by omega)] at k
      obtain ⟨a1, a2⟩ := ex5 e20
      refine m_difficulty (g2.out (fun j _ _ => a1 j (by omega))) (by omega) (m_isSolution hck hd6 hso (fun w => ⟨fun v => absurd rfl v, fun _ => ?_⟩) (fun w => ⟨fun _ f24 e24 => ?_, fun v => absurd v one_ne⟩))
      · have : ¬ sol = true := fun v => w (hsol.mp v)
        rw [if_neg this] at k
        exact k f20 a1 a2
      · rw [if_pos (hsol.mpr w)] at k
        obtain ⟨b1, b2⟩ := ex5 e24
        refine m_marks (b := 1) (fun j a => (b1 j a).trans (a1 j a)) ?_ hc hp hck hk k3 hpv u3 hl hb hus k
        rw [b2, a2, show nI (1 + 1) = nI 1 + nI 1 from rfl]
        grind
  · have ea : accN (ageN (t / 64) ck) (difN (fb_sm O 16)) sol (mkB ky (8 * c + p) ck) pv m2 us = (-5, 0) := by
      unfold accN; rw [if_pos (by omega)]
    rw [ea] at k
    refine k f (fun _ _ => rfl) ?_
    show f 5 = f 5 + 0
    grind
end MCK
