/-! the cases of the law: accepting -/
abbrev KB : Type := Int32 → (Nat → Int32) → (Nat → Int32) → (Nat → Nat → Int32) → Int32 → (Nat → Nat) → (Nat → Int32) → (Nat → Nat → Int32) → (Nat → Nat) → (Nat → Int32) → (Nat → Nat → Int32) → (Nat → Nat) → (Nat → Int32) → (Nat → Nat → Int32) → Prop
section XAB
variable {ec n0 : Nat → Int32} {r0 : Nat → Nat → Int32} {ns : Int32} {a1 : Nat → Nat} {n1 : Nat → Int32} {r1 : Nat → Nat → Int32} {a2 : Nat → Nat} {n2 : Nat → Int32} {r2 : Nat → Nat → Int32} {a3 : Nat → Nat} {n3 : Nat → Int32} {r3 : Nat → Nat → Int32} {K : KB} {pl ck : Nat}
theorem x_faw {code w : Int32} {k : Nat} (h : FC code k) {K' : Int32 → (Nat → Int32) → (Nat → Int32) → Prop} (kk : K' code (upd ec k (ec k + 1)) (upd n0 3 (n0 3 + w))) : wp_X8_failAfterWork ec n0 r0 code w K' := by
  rw [wp_X8_failAfterWork]; exact x_fail h kk
theorem x_okb {w : Nat} {w9 : Int32} (hw9 : w9 = nI w) {U : List Use} {us : Bool} (u1 : R2 U (r0 5) (r0 6)) (u2 : n0 6 = nI U.length) (hl : U.length ≤ 20) (hb : ∀ e ∈ U, e.1 < 128 ∧ e.2 < 1048576) (hus : us = true ↔ (pl, ck) ∈ U) (hp : pl < 128) (hck : ck < 1048576)
    (k8 : us = true → K (-8) (upd ec 6 (ec 6 + 1)) (upd n0 3 (n0 3 + nI w)) r0 ns a1 n1 r1 a2 n2 r2 a3 n3 r3) (k0 : us = false → (wp_X2_save ns a1 n1 r1 a2 n2 r2 a3 n3 r3 n0 r0 (fun (s12 : Int32) (g13 : Nat → Nat) (g14 : Nat → Int32) (g15 : Nat → Nat → Int32) (g16 : Nat → Nat) (g17 : Nat → Int32) (g18 : Nat → Nat → Int32) (g19 : Nat → Nat) (g20 : Nat → Int32) (g21 : Nat → Nat → Int32) => (wp_X7_add (r0 5) (r0 6) (n0 6) (nI pl) (nI ck) (fun (g22 : Nat → Int32) (g23 : Nat → Int32) (s24 : Int32) => (wp_X8_connect ec (upd (upd n0 3 ((n0 3) + nI w)) 6 s24) (va_up (va_up r0 5 g22) 6 g23) (nI pl) (nI ck) (fun (v25 : Int32) (g26 : Nat → Int32) (g27 : Nat → Nat → Int32) => K v25 ec g26 g27 s12 g13 g14 g15 g16 g17 g18 g19 g20 g21))))))) : (wp_X7_contains (r0 5) (r0 6) (n0 6) (nI pl) (nI ck) (fun (v10 : Int32) => ((v10 = 0 → (wp_X2_save ns a1 n1 r1 a2 n2 r2 a3 n3 r3 n0 r0 (fun (s12 : Int32) (g13 : Nat → Nat) (g14 : Nat → Int32) (g15 : Nat → Nat → Int32) (g16 : Nat → Nat) (g17 : Nat → Int32) (g18 : Nat → Nat → Int32) (g19 : Nat → Nat) (g20 : Nat → Int32) (g21 : Nat → Nat → Int32) => (wp_X7_add (r0 5) (r0 6) (n0 6) (nI pl) (nI ck) (fun (g22 : Nat → Int32) (g23 : Nat → Int32) (s24 : Int32) => (wp_X8_connect ec (upd (upd n0 3 ((n0 3) + w9)) 6 s24) (va_up (va_up r0 5 g22) 6 g23) (nI pl) (nI ck) (fun (v25 : Int32) (g26 : Nat → Int32) (g27 : Nat → Nat → Int32) => K v25 ec g26 g27 s12 g13 g14 g15 g16 g17 g18 g19 g20 g21))))))) ∧ (¬ (v10 = 0) → (wp_X8_failAfterWork ec n0 r0 (-8) w9 (fun (v28 : Int32) (g29 : Nat → Int32) (g30 : Nat → Int32) => K v28 g29 g30 r0 ns a1 n1 r1 a2 n2 r2 a3 n3 r3)))))) := by
  subst hw9
  have hc : ∀ (M : Int32 → Prop), ((pl, ck) ∈ U → M 1) → ((pl, ck) ∉ U → M 0) → wp_X7_contains (r0 5) (r0 6) (n0 6) (nI pl) (nI ck) M := fun M x y => by
    rw [u2]; exact x_contains u1 hl hb hp hck x y
  refine hc _ (fun hm => ⟨fun y => absurd y one_ne, fun _ => x_faw fc8 (k8 (hus.mpr hm))⟩) (fun hm => ⟨fun _ => k0 ?_, fun y => absurd rfl y⟩)
  cases us with
  | false => rfl
  | true => exact absurd (hus.mp rfl) hm
theorem x_marks {b : Nat} {w0 : Int32} (hw0 : w0 = nI b) {ky : Nat} {U : List Use} {pv m2 us : Bool} (u1 : R2 U (r0 5) (r0 6)) (u2 : n0 6 = nI U.length) (hl : U.length ≤ 20) (hb : ∀ e ∈ U, e.1 < 128 ∧ e.2 < 1048576) (hus : us = true ↔ (pl, ck) ∈ U) (hp : pl < 128) (hck : ck < 1048576) (hk : ky ≤ 65520) (k2 : n0 1 = nI ky) (hpv : Prv (n0 2) pl ck pv m2)
    (kf : ∀ (code : Int32) (k w : Nat), markR b (mkB ky pl ck) pv m2 us = (code, w) → FC code k → ¬ 0 ≤ code → K code (upd ec k (ec k + 1)) (upd n0 3 (n0 3 + nI w)) r0 ns a1 n1 r1 a2 n2 r2 a3 n3 r3)
    (k0 : ∀ w, markR b (mkB ky pl ck) pv m2 us = (0, w) → (wp_X2_save ns a1 n1 r1 a2 n2 r2 a3 n3 r3 n0 r0 (fun (s12 : Int32) (g13 : Nat → Nat) (g14 : Nat → Int32) (g15 : Nat → Nat → Int32) (g16 : Nat → Nat) (g17 : Nat → Int32) (g18 : Nat → Nat → Int32) (g19 : Nat → Nat) (g20 : Nat → Int32) (g21 : Nat → Nat → Int32) => (wp_X7_add (r0 5) (r0 6) (n0 6) (nI pl) (nI ck) (fun (g22 : Nat → Int32) (g23 : Nat → Int32) (s24 : Int32) => (wp_X8_connect ec (upd (upd n0 3 ((n0 3) + nI w)) 6 s24) (va_up (va_up r0 5 g22) 6 g23) (nI pl) (nI ck) (fun (v25 : Int32) (g26 : Nat → Int32) (g27 : Nat → Nat → Int32) => K v25 ec g26 g27 s12 g13 g14 g15 g16 g17 g18 g19 g20 g21))))))) : (wp_X0_isMarkedWith (n0 1) (nI pl) (nI ck) (fun (v7 : Int32) => ((¬ v7 = 0 → ((¬ v7 = 0 → (wp_X7_contains (r0 5) (r0 6) (n0 6) (nI pl) (nI ck) (fun (v10 : Int32) => ((v10 = 0 → (wp_X2_save ns a1 n1 r1 a2 n2 r2 a3 n3 r3 n0 r0 (fun (s12 : Int32) (g13 : Nat → Nat) (g14 : Nat → Int32) (g15 : Nat → Nat → Int32) (g16 : Nat → Nat) (g17 : Nat → Int32) (g18 : Nat → Nat → Int32) (g19 : Nat → Nat) (g20 : Nat → Int32) (g21 : Nat → Nat → Int32) => (wp_X7_add (r0 5) (r0 6) (n0 6) (nI pl) (nI ck) (fun (g22 : Nat → Int32) (g23 : Nat → Int32) (s24 : Int32) => (wp_X8_connect ec (upd (upd n0 3 ((n0 3) + (w0 + 1))) 6 s24) (va_up (va_up r0 5 g22) 6 g23) (nI pl) (nI ck) (fun (v25 : Int32) (g26 : Nat → Int32) (g27 : Nat → Nat → Int32) => K v25 ec g26 g27 s12 g13 g14 g15 g16 g17 g18 g19 g20 g21))))))) ∧ (¬ (v10 = 0) → (wp_X8_failAfterWork ec n0 r0 (-8) (w0 + 1) (fun (v28 : Int32) (g29 : Nat → Int32) (g30 : Nat → Int32) => K v28 g29 g30 r0 ns a1 n1 r1 a2 n2 r2 a3 n3 r3))))))) ∧ (v7 = 0 → (wp_X8_failAfterWork ec n0 r0 (-7) (w0 + 1) (fun (v28 : Int32) (g29 : Nat → Int32) (g30 : Nat → Int32) => K v28 g29 g30 r0 ns a1 n1 r1 a2 n2 r2 a3 n3 r3))))) ∧ (v7 = 0 → (((n0 2) = (-1) → ((¬ v7 = 0 → (wp_X7_contains (r0 5) (r0 6) (n0 6) (nI pl) (nI ck) (fun (v10 : Int32) => ((v10 = 0 → (wp_X2_save ns a1 n1 r1 a2 n2 r2 a3 n3 r3 n0 r0 (fun (s12 : Int32) (g13 : Nat → Nat) (g14 : Nat → Int32) (g15 : Nat → Nat → Int32) (g16 : Nat → Nat) (g17 : Nat → Int32) (g18 : Nat → Nat → Int32) (g19 : Nat → Nat) (g20 : Nat → Int32) (g21 : Nat → Nat → Int32) => (wp_X7_add (r0 5) (r0 6) (n0 6) (nI pl) (nI ck) (fun (g22 : Nat → Int32) (g23 : Nat → Int32) (s24 : Int32) => (wp_X8_connect ec (upd (upd n0 3 ((n0 3) + (w0 + 1))) 6 s24) (va_up (va_up r0 5 g22) 6 g23) (nI pl) (nI ck) (fun (v25 : Int32) (g26 : Nat → Int32) (g27 : Nat → Nat → Int32) => K v25 ec g26 g27 s12 g13 g14 g15 g16 g17 g18 g19 g20 g21))))))) ∧ (¬ (v10 = 0) → (wp_X8_failAfterWork ec n0 r0 (-8) (w0 + 1) (fun (v28 : Int32) (g29 : Nat → Int32) (g30 : Nat → Int32) => K v28 g29 g30 r0 ns a1 n1 r1 a2 n2 r2 a3 n3 r3))))))) ∧ (v7 = 0 → (wp_X8_failAfterWork ec n0 r0 (-7) (w0 + 1) (fun (v28 : Int32) (g29 : Nat → Int32) (g30 : Nat → Int32) => K v28 g29 g30 r0 ns a1 n1 r1 a2 n2 r2 a3 n3 r3))))) ∧ (¬ ((n0 2) = (-1)) → (wp_X0_isMarkedWith (n0 2) (nI pl) (nI ck) (fun (v60 : Int32) => ((¬ v60 = 0 → (wp_X7_contains (r0 5) (r0 6) (n0 6) (nI pl) (nI ck) (fun (v10 : Int32) => ((v10 = 0 → (wp_X2_save ns a1 n1 r1 a2 n2 r2 a3 n3 r3 n0 r0 (fun (s12 : Int32) (g13 : Nat → Nat) (g14 : Nat → Int32) (g15 : Nat → Nat → Int32) (g16 : Nat → Nat) (g17 : Nat → Int32) (g18 : Nat → Nat → Int32) (g19 : Nat → Nat) (g20 : Nat → Int32) (g21 : Nat → Nat → Int32) => (wp_X7_add (r0 5) (r0 6) (n0 6) (nI pl) (nI ck) (fun (g22 : Nat → Int32) (g23 : Nat → Int32) (s24 : Int32) => (wp_X8_connect ec (upd (upd n0 3 ((n0 3) + (w0 + 1 + 1))) 6 s24) (va_up (va_up r0 5 g22) 6 g23) (nI pl) (nI ck) (fun (v25 : Int32) (g26 : Nat → Int32) (g27 : Nat → Nat → Int32) => K v25 ec g26 g27 s12 g13 g14 g15 g16 g17 g18 g19 g20 g21))))))) ∧ (¬ (v10 = 0) → (wp_X8_failAfterWork ec n0 r0 (-8) (w0 + 1 + 1) (fun (v28 : Int32) (g29 : Nat → Int32) (g30 : Nat → Int32) => K v28 g29 g30 r0 ns a1 n1 r1 a2 n2 r2 a3 n3 r3))))))) ∧ (v60 = 0 → (wp_X8_failAfterWork ec n0 r0 (-7) (w0 + 1 + 1) (fun (v28 : Int32) (g29 : Nat → Int32) (g30 : Nat → Int32) => K v28 g29 g30 r0 ns a1 n1 r1 a2 n2 r2 a3 n3 r3)))))))))))) := by
  subst hw0
  have hm1 : ∀ (M : Int32 → Prop), (mkB ky pl ck = false → M 0) → (mkB ky pl ck = true → M 1) → wp_X0_isMarkedWith (n0 1) (nI pl) (nI ck) M := fun M x y => by
    rw [k2]; exact x_isMarked hk hp hck x y
  have e1 : nI b + 1 = nI (b + 1) := nI_1 b
  have e2 : nI b + 1 + 1 = nI (b + 2) := by rw [e1]; exact nI_1 (b + 1)
  refine hm1 _ (fun x => ⟨fun y => absurd rfl y, fun _ => ⟨fun y => ⟨fun v => absurd rfl v, fun _ => x_faw fc7 ?_⟩, fun y => ?_⟩⟩) (fun x => ⟨fun _ => ⟨fun _ => x_okb e1 u1 u2 hl hb hus hp hck (fun q => ?_) (fun q => ?_), fun v => absurd v one_ne⟩, fun v => absurd v one_ne⟩)
  · have e : pv = false := by
      rcases hpv with ⟨-, h⟩ | ⟨-, k2', h1, h2, -⟩
      · exact h
      · rw [h2] at y; exact absurd y (nI_nm1 (by omega))
    rw [e1]
    refine kf (-7) 5 (b + 1) ?_ fc7 (by decide)
    rw [x, e]; rfl
  · rcases hpv with ⟨h, -⟩ | ⟨h, k2', hk2, ek2, em2⟩
    · exact absurd h y
    have hm2 : ∀ (M : Int32 → Prop), (mkB k2' pl ck = false → M 0) → (mkB k2' pl ck = true → M 1) → wp_X0_isMarkedWith (n0 2) (nI pl) (nI ck) M := fun M x y => by
      rw [ek2]; exact x_isMarked hk2 hp hck x y
    refine hm2 _ (fun z => ⟨fun v => absurd rfl v, fun _ => x_faw fc7 ?_⟩) (fun z => ⟨fun _ => x_okb e2 u1 u2 hl hb hus hp hck (fun q => ?_) (fun q => ?_), fun v => absurd v one_ne⟩)
    · rw [e2]
      refine kf (-7) 5 (b + 2) ?_ fc7 (by decide)
      rw [x, h, em2, z]; rfl
    · refine kf (-8) 6 (b + 2) ?_ fc8 (by decide)
      rw [x, h, em2, z, q]; rfl
    · refine k0 (b + 2) ?_
      rw [x, h, em2, z, q]; rfl
  · refine kf (-8) 6 (b + 1) ?_ fc8 (by decide)
    rw [x, q]; rfl
  · refine k0 (b + 1) ?_
    rw [x, q]; rfl
theorem x_abc {ky t so : Nat} {O : Nat → Nat} {U : List Use} {sol pv m2 us : Bool} (u1 : R2 U (r0 5) (r0 6)) (u2 : n0 6 = nI U.length) (hl : U.length ≤ 20) (hb : ∀ e ∈ U, e.1 < 128 ∧ e.2 < 1048576) (hus : us = true ↔ (pl, ck) ∈ U) (hp : pl < 128) (hck : ck < 1048576) (hso : so < 1048576) (hk : ky ≤ 65520) (k2 : n0 1 = nI ky) (hpv : Prv (n0 2) pl ck pv m2) (ht : t < 2 ^ 29) (h2 : n0 0 = nI t) (g1 : OC O (r0 0)) (g3 : fb_sm O 16 < 2 ^ 20) (hsol : sol = true ↔ digN ck so % 2 ^ difN (fb_sm O 16) = 0)
    (k5 : accN (ageN (t / 64) ck) (difN (fb_sm O 16)) sol (mkB ky pl ck) pv m2 us = (-5, 0) → K (-5) (upd ec 3 (ec 3 + 1)) n0 r0 ns a1 n1 r1 a2 n2 r2 a3 n3 r3)
    (kf : ∀ (code : Int32) (k w : Nat), accN (ageN (t / 64) ck) (difN (fb_sm O 16)) sol (mkB ky pl ck) pv m2 us = (code, w) → FC code k → ¬ 0 ≤ code → K code (upd ec k (ec k + 1)) (upd n0 3 (n0 3 + nI w)) r0 ns a1 n1 r1 a2 n2 r2 a3 n3 r3)
    (k0 : ∀ w, accN (ageN (t / 64) ck) (difN (fb_sm O 16)) sol (mkB ky pl ck) pv m2 us = (0, w) → ageN (t / 64) ck ≤ 1 → (wp_X2_save ns a1 n1 r1 a2 n2 r2 a3 n3 r3 n0 r0 (fun (s12 : Int32) (g13 : Nat → Nat) (g14 : Nat → Int32) (g15 : Nat → Nat → Int32) (g16 : Nat → Nat) (g17 : Nat → Int32) (g18 : Nat → Nat → Int32) (g19 : Nat → Nat) (g20 : Nat → Int32) (g21 : Nat → Nat → Int32) => (wp_X7_add (r0 5) (r0 6) (n0 6) (nI pl) (nI ck) (fun (g22 : Nat → Int32) (g23 : Nat → Int32) (s24 : Int32) => (wp_X8_connect ec (upd (upd n0 3 ((n0 3) + nI w)) 6 s24) (va_up (va_up r0 5 g22) 6 g23) (nI pl) (nI ck) (fun (v25 : Int32) (g26 : Nat → Int32) (g27 : Nat → Nat → Int32) => K v25 ec g26 g27 s12 g13 g14 g15 g16 g17 g18 g19 g20 g21))))))) : wp_X8_acceptByCookie ec n0 r0 ns a1 n1 r1 a2 n2 r2 a3 n3 r3 (nI pl) (nI ck) (nI so) K := by
  rw [wp_X8_acceptByCookie, wp_X6_currentEpoch, h2, ep_eq (by omega)]
  have hag : ageN (t / 64) ck < 32 := Nat.mod_lt _ (by decide)
  have hd6 := difN_le (fb_sm O 16)
  refine x_age hck (by omega) ⟨fun x => x_difficulty g1 (by omega) ?_, fun x => x_fail fc5 (k5 ?_)⟩
  · rw [show (1 : Int32) = nI 1 from rfl, nI_leI (by omega) (by decide)] at x
    have ea : accN (ageN (t / 64) ck) (difN (fb_sm O 16)) sol (mkB ky pl ck) pv m2 us = if difN (fb_sm O 16) = 0 then markR 0 (mkB ky pl ck) pv m2 us else if sol = true then markR 1 (mkB ky pl ck) pv m2 us else (-6, 1) := by
      unfold accN; rw [if_neg (by omega)]
    rw [ea] at kf k0
    have hle : nI (difN (fb_sm O 16)) ≤ 0 ↔ difN (fb_sm O 16) ≤ 0 := by
      rw [show (0 : Int32) = nI 0 from rfl, nI_leI (by omega) (by decide)]
    refine ⟨fun y => ⟨fun _ => ?_, fun v => absurd y v⟩, fun y => ⟨fun v => absurd v y, fun _ => x_isSolution hck hd6 hso (fun w => ⟨fun v => absurd rfl v, fun _ => ?_⟩) (fun w => ⟨fun _ => ?_, fun v => absurd v one_ne⟩)⟩⟩
    · rw [hle] at y
      rw [if_pos (by omega)] at kf k0
      exact x_marks (b := 0) (w0 := 0) rfl u1 u2 hl hb hus hp hck hk k2 hpv kf (fun w e => k0 w e x)
    · rw [hle] at y
      rw [if_neg (by omega), if_neg (fun v => w (hsol.mp v))] at kf
      exact x_faw fc6 (kf (-6) 4 1 rfl fc6 (by decide))
    · rw [hle] at y
      rw [if_neg (by omega), if_pos (hsol.mpr w)] at kf k0
      exact x_marks (b := 1) (w0 := 1) rfl u1 u2 hl hb hus hp hck hk k2 hpv kf (fun w e => k0 w e x)
  · rw [show (1 : Int32) = nI 1 from rfl, nI_leI (by omega) (by decide)] at x
    unfold accN; rw [if_pos (by omega)]
end XAB
section MAB
variable {f g em : Nat → Int32} {hh : Int64} {c p ck so ky t s9 : Nat} {O Q : Nat → Nat} {U : List Use} {sol pv m2 us : Bool} {K : Int32 → (Nat → Int32) → (Nat → Int32) → Int32 → (Nat → Int32) → Prop}
theorem m_chkF (hc : c < 16) (hp : p < 8) (hck : ck < 1048576) (hso : so < 1048576) (ht : t < 2 ^ 29) (h3 : f 0 = nI t) (hk : ky ≤ 65520) (k3 : f 1 = nI ky) (hpv : Prv (f 2) (8 * c + p) ck pv m2) (g2 : OM O f) (g3 : fb_sm O 16 < 2 ^ 20) (u3 : UM U f) (hl : U.length ≤ 20) (hb : ∀ e ∈ U, e.1 < 128 ∧ e.2 < 1048576) (hus : us = true ↔ (8 * c + p, ck) ∈ U) (hsol : sol = true ↔ digN ck so % 2 ^ difN (fb_sm O 16) = 0) {code : Int32} {k w : Nat} (hacc : accN (ageN (t / 64) ck) (difN (fb_sm O 16)) sol (mkB ky (8 * c + p) ck) pv m2 us = (code, w)) (hF : FC code k) (hn : ¬ 0 ≤ code)
    (kf : ∀ f', (∀ j, j ≠ 5 → f' j = f j) → f' 5 = f 5 + nI w → K code f' g (nI s9) (upd em k (em k + 1))) : (wp_X9_checks f g (nI s9) em hh (nI c) (nI p) (nI ck) (nI so) (fun (r17 : Int32) (g18 : Nat → Int32) => ((0 ≤ r17 → (∀ f20 : Nat → Int32, f20 = upd g18 5 (f 5) → (wp_X9_saves f20 g (nI s9) em hh (fun (g21 : Nat → Int32) (s22 : Int32) => (∀ f23 : Nat → Int32, f23 = upd f20 5 (g18 5) → (wp_X9_remembers f23 g21 s22 em hh (nI c) (nI p) (nI ck) (fun (g24 : Nat → Int32) => (wp_X9_sizeAt g24 g21 s22 em hh (nI c) (nI p) (fun (r25 : Int32) => (wp_X9_optionOf (nI ck) (fun (r26 : Int32) => (vp_in r25 404 ∧ (∀ f27 : Nat → Int32, f27 = upd g24 (Int32.toNatClampNeg r25) (1 + r26) → (wp_X9_optionOf (nI ck) (fun (r28 : Int32) => (wp_X9_sizeOf r28 (fun (r29 : Int32) => K r29 f27 g21 s22 em))))))))))))))))) ∧ (¬ (0 ≤ r17) → (wp_X9_fails g18 g (nI s9) em hh r17 (fun (r30 : Int32) (g31 : Nat → Int32) => K r30 g18 g (nI s9) g31)))))) := by
  refine m_checks hc hp hck hso ht h3 hk k3 hpv g2 g3 u3 hl hb hus hsol (fun f' a1 a2 => ?_)
  rw [hacc] at a2 ⊢
  exact ⟨fun x => absurd x hn, fun _ => m_fails hF (kf f' a1 a2)⟩
theorem m_chk0 (hc : c < 16) (hp : p < 8) (hck : ck < 1048576) (hso : so < 1048576) (ht : t < 2 ^ 29) (h3 : f 0 = nI t) (hk : ky ≤ 65520) (k3 : f 1 = nI ky) (hpv : Prv (f 2) (8 * c + p) ck pv m2) (g2 : OM O f) (g3 : fb_sm O 16 < 2 ^ 20) (u3 : UM U f) (hl : U.length ≤ 20) (hb : ∀ e ∈ U, e.1 < 128 ∧ e.2 < 1048576) (hus : us = true ↔ (8 * c + p, ck) ∈ U) (hsol : sol = true ↔ digN ck so % 2 ^ difN (fb_sm O 16) = 0) {w : Nat} (hacc : accN (ageN (t / 64) ck) (difN (fb_sm O 16)) sol (mkB ky (8 * c + p) ck) pv m2 us = (0, w)) (hs9 : s9 ≤ 3) (p2 : PM Q f)
    (k0 : ∀ f' g', SavedM s9 f g g' → UM (addU U (8 * c + p, ck)) f' → PM (nup Q (8 * c + p) (optN ck + 1)) f' → f' 5 = f 5 + nI w → (∀ j, j ≠ 4 → j ≠ 5 → ¬ (40 ≤ j ∧ j < 228) → f' j = f j) → K (nI (segN (optN ck))) f' g' (nI (nxt s9)) em) : (wp_X9_checks f g (nI s9) em hh (nI c) (nI p) (nI ck) (nI so) (fun (r17 : Int32) (g18 : Nat → Int32) => ((0 ≤ r17 → (∀ f20 : Nat → Int32, f20 = upd g18 5 (f 5) → (wp_X9_saves f20 g (nI s9) em hh (fun (g21 : Nat → Int32) (s22 : Int32) => (∀ f23 : Nat → Int32, f23 = upd f20 5 (g18 5) → (wp_X9_remembers f23 g21 s22 em hh (nI c) (nI p) (nI ck) (fun (g24 : Nat → Int32) => (wp_X9_sizeAt g24 g21 s22 em hh (nI c) (nI p) (fun (r25 : Int32) => (wp_X9_optionOf (nI ck) (fun (r26 : Int32) => (vp_in r25 404 ∧ (∀ f27 : Nat → Int32, f27 = upd g24 (Int32.toNatClampNeg r25) (1 + r26) → (wp_X9_optionOf (nI ck) (fun (r28 : Int32) => (wp_X9_sizeOf r28 (fun (r29 : Int32) => K r29 f27 g21 s22 em))))))))))))))))) ∧ (¬ (0 ≤ r17) → (wp_X9_fails g18 g (nI s9) em hh r17 (fun (r30 : Int32) (g31 : Nat → Int32) => K r30 g18 g (nI s9) g31)))))) := by
  refine m_checks hc hp hck hso ht h3 hk k3 hpv g2 g3 u3 hl hb hus hsol (fun f' a1 a2 => ?_)
  rw [hacc] at a2 ⊢
  refine ⟨fun _ f20 e20 => ?_, fun x => absurd (show (0 : Int32) ≤ 0 by decide) x⟩
  have e : f20 = f := by
    funext j
    by_cases x : j = 5
    · subst x; rw [e20, pk_us]
    · rw [e20, pk_un x]; exact a1 j x
  subst e
  refine m_saves hs9 (fun g' hg' f23 e23 => ?_)
  have h23 : ∀ j, j ≠ 5 → f23 j = f20 j := fun j x => by rw [e23, pk_un x]
  have h235 : f23 5 = f20 5 + nI w := by rw [e23, pk_us]; exact a2
  have hol := optN_lt ck
  refine m_remembers (u3.out hl (h23 4 (by decide)) (fun j _ _ => h23 j (by omega))) hl hc hp (fun f24 hU24 hs24 => m_sizeAt (m_optionOf hck ⟨vp_in_nI (by omega) (by decide), fun f27 e27 => m_optionOf hck (m_sizeOf hol ?_)⟩))
  rw [nI_clamp (by omega), show (1 : Int32) + nI (optN ck) = nI (optN ck + 1) by rw [show (1 : Int32) + nI (optN ck) = nI (1 + optN ck) from ix, Nat.add_comm]] at e27
  have hlu : (addU U (8 * c + p, ck)).length ≤ 20 := by
    unfold addU
    split
    · simp; omega
    · simp; omega
  refine k0 f27 g' hg' (hU24.out hlu (by rw [e27, pk_un (by omega)]) (fun j _ _ => by rw [e27, pk_un (by omega)])) ?_ ?_ (fun j x y z => ?_)
  · rw [e27]
    exact PM_nup (p2.out (fun j _ _ => by rw [hs24 j (by omega) (by omega), h23 j (by omega)]))
  · rw [e27, pk_un (by omega), hs24 5 (by omega) (by omega)]; exact h235
  · rw [e27, pk_un (by omega), hs24 j (by omega) (by omega), h23 j y]
theorem m_accPre {LL : List Ent} (hc : c < 16) (hp : p < 8) (hck : ck < 1048576) (hso : so ≤ 9999) (p2 : PM Q f) (p3 : ∀ j, j < 128 → Q j ≤ 8) (hq : Q (8 * c + p) = 0) (hcn : cntP Q < 10) (e3 : EM LL f) (e4 : EI2 LL t) (hnot : ∀ (j : Nat) (e : Ent), LL[j]? = some e → e.1 = 8 * c + p → e.2.1 ≠ ck) (blk : (wp_X9_checks f g (nI s9) em hh (nI c) (nI p) (nI ck) (nI so) (fun (r17 : Int32) (g18 : Nat → Int32) => ((0 ≤ r17 → (∀ f20 : Nat → Int32, f20 = upd g18 5 (f 5) → (wp_X9_saves f20 g (nI s9) em hh (fun (g21 : Nat → Int32) (s22 : Int32) => (∀ f23 : Nat → Int32, f23 = upd f20 5 (g18 5) → (wp_X9_remembers f23 g21 s22 em hh (nI c) (nI p) (nI ck) (fun (g24 : Nat → Int32) => (wp_X9_sizeAt g24 g21 s22 em hh (nI c) (nI p) (fun (r25 : Int32) => (wp_X9_optionOf (nI ck) (fun (r26 : Int32) => (vp_in r25 404 ∧ (∀ f27 : Nat → Int32, f27 = upd g24 (Int32.toNatClampNeg r25) (1 + r26) → (wp_X9_optionOf (nI ck) (fun (r28 : Int32) => (wp_X9_sizeOf r28 (fun (r29 : Int32) => K r29 f27 g21 s22 em))))))))))))))))) ∧ (¬ (0 ≤ r17) → (wp_X9_fails g18 g (nI s9) em hh r17 (fun (r30 : Int32) (g31 : Nat → Int32) => K r30 g18 g (nI s9) g31))))))) : wp_X9_accept f g (nI s9) em hh (nI c) (nI p) (nI ck) (nI so) K := by
  rw [wp_X9_accept]
  have hl4 := e4.1.1
  refine m_isPort_in hc hp ⟨fun y => absurd y one_ne, fun _ => m_isCookie_in hck ⟨fun y => absurd y one_ne, fun _ => m_within_in (l := 0) (h := 9999) rfl rfl rfl (by omega) hso (by decide) ⟨fun _ => m_isConnected p2 p3 hc hp (fun _ => ⟨fun _ => m_connections p2 p3 ⟨fun _ => ?_, fun y => ?_⟩, fun y => absurd rfl y⟩) (fun x => by omega), fun y => absurd y one_ne⟩⟩⟩
  · refine m_entryOf e3 e4.1 hc hp (fun j e hj he => ⟨fun y => absurd y (nI_nm1 (by have := (List.getElem?_eq_some_iff.mp hj).1; omega)), fun _ => ?_⟩) (fun hn => ⟨fun _ => blk, fun y => absurd rfl y⟩)
    have hj4 := (List.getElem?_eq_some_iff.mp hj).1
    have hm := e4.1.2.2 e (List.mem_of_getElem? hj)
    rw [show (24 : Int32) = nI 24 from rfl, show (4 : Int32) = nI 4 from rfl, show (2 : Int32) = nI 2 from rfl, pk_mul, nI_add, nI_add, nI_clamp (by omega), (e3.2 j e hj).2.2.1, nI_eq (by omega) (by omega)]
    exact ⟨vp_in_nI (by omega) (by decide), fun _ => blk, fun y => absurd y (hnot j e hj he)⟩
  · rw [show (10 : Int32) = nI 10 from rfl, nI_eq (by omega) (by decide)] at y
    omega
theorem m_acceptE {LL : List Ent} {e : Ent} {i : Nat} (hc : c < 16) (hp : p < 8) (hck : ck < 1048576) (hso : so ≤ 9999) (p2 : PM Q f) (p3 : ∀ j, j < 128 → Q j ≤ 8) (hq : Q (8 * c + p) = 0) (hcn : cntP Q < 10) (e3 : EM LL f) (e4 : EI2 LL t) (hs9 : s9 ≤ 3) (hi : LL[i]? = some e) (he : e.1 = 8 * c + p) (hec : e.2.1 = ck)
    (k0 : ∀ f' g', SavedM s9 f g g' → EM (LL.eraseIdx i) f' → PM (nup Q (8 * c + p) (optN ck + 1)) f' → (∀ j, j ≠ 3 → ¬ (24 ≤ j ∧ j < 168) → f' j = f j) → K (nI (segN (optN ck))) f' g' (nI (nxt s9)) em) : wp_X9_accept f g (nI s9) em hh (nI c) (nI p) (nI ck) (nI so) K := by
  rw [wp_X9_accept]
  have hl4 := e4.1.1
  refine m_isPort_in hc hp ⟨fun y => absurd y one_ne, fun _ => m_isCookie_in hck ⟨fun y => absurd y one_ne, fun _ => m_within_in (l := 0) (h := 9999) rfl rfl rfl (by omega) hso (by decide) ⟨fun _ => m_isConnected p2 p3 hc hp (fun _ => ⟨fun _ => m_connections p2 p3 ⟨fun _ => ?_, fun y => ?_⟩, fun y => absurd rfl y⟩) (fun x => by omega), fun y => absurd y one_ne⟩⟩⟩
  · refine m_entryOf e3 e4.1 hc hp (fun j d hj hd => ⟨fun y => absurd y (nI_nm1 (by have := (List.getElem?_eq_some_iff.mp hj).1; omega)), fun _ => ?_⟩) (fun hn => absurd he (hn e (List.mem_of_getElem? hi)))
    have ij := e4.1.2.1 i j e d hi hj (by omega)
    subst ij
    rw [hi] at hj; cases hj
    have hj4 := (List.getElem?_eq_some_iff.mp hi).1
    have hm := e4.1.2.2 e (List.mem_of_getElem? hi)
    have e42 : ((24 : Int32) + 4 * nI i) + 2 = nI (24 + 4 * i + 2) := by
      rw [show (24 : Int32) = nI 24 from rfl, show (4 : Int32) = nI 4 from rfl, show (2 : Int32) = nI 2 from rfl, pk_mul, nI_add, nI_add]
    rw [e42, nI_clamp (by omega), (e3.2 i e hi).2.2.1, nI_eq (by omega) (by omega)]
    refine ⟨vp_in_nI (by omega) (by decide), fun y => absurd hec y, fun _ f48 e48 => ?_⟩
    have ef : f48 = f := by
      funext j
      by_cases x : j = 5
      · subst x; rw [e48, pk_us]
      · rw [e48, pk_un x]
    subst ef
    refine m_saves hs9 (fun g' hg' f51 e51 => ?_)
    rw [← e48] at e51
    subst e51
    have hol := optN_lt ck
    refine m_dropE e3 hl4 hj4 (fun f52 hE52 hs52 => m_sizeAt (m_optionOf hck ⟨vp_in_nI (by omega) (by decide), fun f55 e55 => m_optionOf hck (m_sizeOf hol ?_)⟩))
    rw [nI_clamp (by omega), show (1 : Int32) + nI (optN ck) = nI (optN ck + 1) by rw [show (1 : Int32) + nI (optN ck) = nI (1 + optN ck) from ix, Nat.add_comm]] at e55
    refine k0 f55 g' hg' (hE52.out (by rw [List.length_eraseIdx]; split <;> omega) (by rw [e55, pk_un (by omega)]) (fun j _ _ => by rw [e55, pk_un (by omega)])) ?_ (fun j x y => ?_)
    · rw [e55]
      exact PM_nup (p2.out (fun j _ _ => hs52 j (by omega) (by omega)))
    · rw [e55, pk_un (by omega), hs52 j (by omega) (by omega)]
  · rw [show (10 : Int32) = nI 10 from rfl, nI_eq (by omega) (by decide)] at y
    omega
theorem m_acceptF {LL : List Ent} (hc : c < 16) (hp : p < 8) (hck : ck < 1048576) (hso : so ≤ 9999) (p3 : ∀ j, j < 128 → Q j ≤ 8) (hq : Q (8 * c + p) = 0) (hcn : cntP Q < 10) (e3 : EM LL f) (e4 : EI2 LL t) (hnot : ∀ (j : Nat) (e : Ent), LL[j]? = some e → e.1 = 8 * c + p → e.2.1 ≠ ck) (ht : t < 2 ^ 29) (h3 : f 0 = nI t) (hk : ky ≤ 65520) (k3 : f 1 = nI ky) (hpv : Prv (f 2) (8 * c + p) ck pv m2) (g2 : OM O f) (g3 : fb_sm O 16 < 2 ^ 20) (u3 : UM U f) (hl : U.length ≤ 20) (hb : ∀ e ∈ U, e.1 < 128 ∧ e.2 < 1048576) (hus : us = true ↔ (8 * c + p, ck) ∈ U) (hsol : sol = true ↔ digN ck so % 2 ^ difN (fb_sm O 16) = 0) (p2 : PM Q f) {code : Int32} {k w : Nat} (hacc : accN (ageN (t / 64) ck) (difN (fb_sm O 16)) sol (mkB ky (8 * c + p) ck) pv m2 us = (code, w)) (hF : FC code k) (hn : ¬ 0 ≤ code)
    (kf : ∀ f', (∀ j, j ≠ 5 → f' j = f j) → f' 5 = f 5 + nI w → K code f' g (nI s9) (upd em k (em k + 1))) : wp_X9_accept f g (nI s9) em hh (nI c) (nI p) (nI ck) (nI so) K :=
  m_accPre hc hp hck hso p2 p3 hq hcn e3 e4 hnot (m_chkF hc hp hck (by omega) ht h3 hk k3 hpv g2 g3 u3 hl hb hus hsol hacc hF hn kf)
theorem m_accept0 {LL : List Ent} (hc : c < 16) (hp : p < 8) (hck : ck < 1048576) (hso : so ≤ 9999) (p3 : ∀ j, j < 128 → Q j ≤ 8) (hq : Q (8 * c + p) = 0) (hcn : cntP Q < 10) (e3 : EM LL f) (e4 : EI2 LL t) (hnot : ∀ (j : Nat) (e : Ent), LL[j]? = some e → e.1 = 8 * c + p → e.2.1 ≠ ck) (ht : t < 2 ^ 29) (h3 : f 0 = nI t) (hk : ky ≤ 65520) (k3 : f 1 = nI ky) (hpv : Prv (f 2) (8 * c + p) ck pv m2) (g2 : OM O f) (g3 : fb_sm O 16 < 2 ^ 20) (u3 : UM U f) (hl : U.length ≤ 20) (hb : ∀ e ∈ U, e.1 < 128 ∧ e.2 < 1048576) (hus : us = true ↔ (8 * c + p, ck) ∈ U) (hsol : sol = true ↔ digN ck so % 2 ^ difN (fb_sm O 16) = 0) (p2 : PM Q f) {w : Nat} (hacc : accN (ageN (t / 64) ck) (difN (fb_sm O 16)) sol (mkB ky (8 * c + p) ck) pv m2 us = (0, w)) (hs9 : s9 ≤ 3)
    (k0 : ∀ f' g', SavedM s9 f g g' → UM (addU U (8 * c + p, ck)) f' → PM (nup Q (8 * c + p) (optN ck + 1)) f' → f' 5 = f 5 + nI w → (∀ j, j ≠ 4 → j ≠ 5 → ¬ (40 ≤ j ∧ j < 228) → f' j = f j) → K (nI (segN (optN ck))) f' g' (nI (nxt s9)) em) : wp_X9_accept f g (nI s9) em hh (nI c) (nI p) (nI ck) (nI so) K :=
  m_accPre hc hp hck hso p2 p3 hq hcn e3 e4 hnot (m_chk0 hc hp hck (by omega) ht h3 hk k3 hpv g2 g3 u3 hl hb hus hsol hacc hs9 p2 k0)
end MAB
theorem filter_erase : ∀ (L : List Ent) (i : Nat) (e : Ent) (pl : Nat), L.Pairwise (fun a b => a.1 ≠ b.1) → L[i]? = some e → e.1 = pl → L.filter (fun d => decide (d.1 ≠ pl)) = L.eraseIdx i
  | [], i, e, pl, _, h, _ => by simp at h
  | x :: L, 0, e, pl, hp, h, he => by
    simp at h
    subst h
    rw [List.pairwise_cons] at hp
    rw [List.filter_cons_of_neg (by simp [he]), List.eraseIdx_cons_zero]
    exact List.filter_eq_self.mpr (fun d hd => decide_eq_true (fun z => hp.1 d hd (by rw [he, z])))
  | x :: L, i + 1, e, pl, hp, h, he => by
    rw [List.pairwise_cons] at hp
    rw [List.getElem?_cons_succ] at h
    have hx : x.1 ≠ pl := fun z => hp.1 e (List.mem_of_getElem? h) (by rw [he, z])
    rw [List.filter_cons_of_pos (by simp only [decide_eq_true_eq]; exact hx), List.eraseIdx_cons_succ, filter_erase L i e pl hp.2 h he]
