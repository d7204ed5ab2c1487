def wc_152 (L : Nat) (xs : Nat → Int32) (J : Int32 → (Nat → Int32) → (Nat → Nat) → (Nat → Int32) → (Nat → Nat → Int32) → Int32 → (Nat → Nat) → (Nat → Int32) → (Nat → Nat → Int32) → (Nat → Nat) → (Nat → Int32) → (Nat → Nat → Int32) → (Nat → Nat) → (Nat → Int32) → (Nat → Nat → Int32) → (Nat → Int32) → (Nat → Int32) → Int32 → (Nat → Int32) → Int64 → Prop) (x3 : Int32) (a_errors : Nat → Int32) (a0 : Nat → Nat) (n0 : Nat → Int32) (r0 : Nat → Nat → Int32) (n_saved : Int32) (a1 : Nat → Nat) (n1 : Nat → Int32) (r1 : Nat → Nat → Int32) (a2 : Nat → Nat) (n2 : Nat → Int32) (r2 : Nat → Nat → Int32) (a3 : Nat → Nat) (n3 : Nat → Int32) (r3 : Nat → Nat → Int32) (a_now_m : Nat → Int32) (a_past_m : Nat → Int32) (n_saved_m : Int32) (a_errors_m : Nat → Int32) (n_hash_m : Int64) : Prop := (vp_in (x3 + 1) L ∧ (wp_X8_advance a_errors n0 r0 n_saved a1 n1 r1 a2 n2 r2 a3 n3 r3 (xs (Int32.toNatClampNeg (x3 + 1))) (fun (v1 : Int32) (g2 : Nat → Int32) (g3 : Nat → Int32) (g4 : Nat → Nat → Int32) (s5 : Int32) (g6 : Nat → Nat) (g7 : Nat → Int32) (g8 : Nat → Nat → Int32) (g9 : Nat → Nat) (g10 : Nat → Int32) (g11 : Nat → Nat → Int32) (g12 : Nat → Nat) (g13 : Nat → Int32) (g14 : Nat → Nat → Int32) => (vp_in (x3 + 1) L ∧ (wp_X9_advance a_now_m a_past_m n_saved_m a_errors_m n_hash_m (xs (Int32.toNatClampNeg (x3 + 1))) (fun (v15 : Int32) (g16 : Nat → Int32) (g17 : Nat → Int32) (s18 : Int32) (g19 : Nat → Int32) => ((v1 = v15 → J (x3 + 5) g2 a0 g3 g4 s5 g6 g7 g8 g9 g10 g11 g12 g13 g14 g16 g17 s18 g19 n_hash_m) ∧ (¬ (v1 = v15) → False))))))))
set_option maxRecDepth 100000 in
set_option maxHeartbeats 4000000 in
theorem bc_152 {p : Program} {l : Launch} {e : Env} {s : State} {m : MethodId} {below : List Frame} {meth : Method} {c : Code} {E : EN} {A : Nat → Prop} {b L : Nat} {xs : Nat → Int32} (hC : Cx p s m #[.ref b] meth c E A cL_law 4 "CookieServerLaw") (hr : meth.sig.returnType = ret) (hX : va_X b L xs s s.heap ∧ b < s.heap.size ∧ ¬ A b) (hA9 : ∀ q, A q → s.heap.size ≤ q) (h0 : Nat) (hh : Nat) (he : Nat) (ha : Nat) (m0 : Nat) (m1 : Nat) (m2 : Nat) (m3 : Nat) (J : Int32 → (Nat → Int32) → (Nat → Nat) → (Nat → Int32) → (Nat → Nat → Int32) → Int32 → (Nat → Nat) → (Nat → Int32) → (Nat → Nat → Int32) → (Nat → Nat) → (Nat → Int32) → (Nat → Nat → Int32) → (Nat → Nat) → (Nat → Int32) → (Nat → Nat → Int32) → (Nat → Int32) → (Nat → Int32) → Int32 → (Nat → Int32) → Int64 → Prop) (hJ : ∀ (x3 : Int32) (a_errors : Nat → Int32) (a0 : Nat → Nat) (n0 : Nat → Int32) (r0 : Nat → Nat → Int32) (n_saved : Int32) (a1 : Nat → Nat) (n1 : Nat → Int32) (r1 : Nat → Nat → Int32) (a2 : Nat → Nat) (n2 : Nat → Int32) (r2 : Nat → Nat → Int32) (a3 : Nat → Nat) (n3 : Nat → Int32) (r3 : Nat → Nat → Int32) (a_now_m : Nat → Int32) (a_past_m : Nat → Int32) (n_saved_m : Int32) (a_errors_m : Nat → Int32) (n_hash_m : Int64), J x3 a_errors a0 n0 r0 n_saved a1 n1 r1 a2 n2 r2 a3 n3 r3 a_now_m a_past_m n_saved_m a_errors_m n_hash_m → V p l e room_1 s m #[.ref b] below meth c E A 4 76 3239 (lw_Z below #[.ref b] s) 18 [(0, .ref b), (1, .ref h0), (2, .ref m0), (3, .int x3)] [] (LW E h0 hh he ha m0 m1 m2 m3 a_errors a0 n0 r0 n_saved a1 n1 r1 a2 n2 r2 a3 n3 r3 a_now_m a_past_m n_saved_m a_errors_m n_hash_m)) (x3 : Int32) (a_errors : Nat → Int32) (a0 : Nat → Nat) (n0 : Nat → Int32) (r0 : Nat → Nat → Int32) (n_saved : Int32) (a1 : Nat → Nat) (n1 : Nat → Int32) (r1 : Nat → Nat → Int32) (a2 : Nat → Nat) (n2 : Nat → Int32) (r2 : Nat → Nat → Int32) (a3 : Nat → Nat) (n3 : Nat → Int32) (r3 : Nat → Nat → Int32) (a_now_m : Nat → Int32) (a_past_m : Nat → Int32) (n_saved_m : Int32) (a_errors_m : Nat → Int32) (n_hash_m : Int64) (hw : wc_152 L xs J x3 a_errors a0 n0 r0 n_saved a1 n1 r1 a2 n2 r2 a3 n3 r3 a_now_m a_past_m n_saved_m a_errors_m n_hash_m) : V p l e room_1 s m #[.ref b] below meth c E A 4 76 3239 (lw_Z below #[.ref b] s) 152 [(0, .ref b), (1, .ref h0), (2, .ref m0), (3, .int x3)] [] (LW E h0 hh he ha m0 m1 m2 m3 a_errors a0 n0 r0 n_saved a1 n1 r1 a2 n2 r2 a3 n3 r3 a_now_m a_past_m n_saved_m a_errors_m n_hash_m) := by
  rw [wc_152] at hw
  refine V_aload_n hC 1 rfl rfl dL_law_152 ?_
  refine V_aload_n hC 0 rfl rfl dL_law_153 ?_
  refine V_iload_n hC 3 rfl rfl dL_law_154 ?_
  refine V_iconst hC 1 dL_law_155 (by decide) ?_
  refine V_iadd hC dL_law_156 ?_
  refine V_sld hC hX hw.1 dL_law_157 ?_
  have hw := hw.2
  refine V_callP hC ((LW E h0 hh he ha m0 m1 m2 m3 a_errors a0 n0 r0 n_saved a1 n1 r1 a2 n2 r2 a3 n3 r3 a_now_m a_past_m n_saved_m a_errors_m n_hash_m).drop 72) 1 [.int (xs (Int32.toNatClampNeg (x3 + 1)))] [] (ct_X8_advance l E h0 hh he a0 ha a_errors n0 r0 n_saved a1 n1 r1 a2 n2 r2 a3 n3 r3 (xs (Int32.toNatClampNeg (x3 + 1))) _ hw) wd_218 wd_32 wd_215 wd_216 wd_217 (by decide +kernel) rfl ⟨Nat.le_of_ble_eq_true rfl, Nat.le_of_ble_eq_true rfl⟩ rfl rfl rfl rfl (Nat.le_of_ble_eq_true rfl) ⟨Nat.le_of_ble_eq_true rfl, Nat.le_of_ble_eq_true rfl⟩ dL_law_158 (fun v ws' hp => ?_)
  obtain ⟨v1, g2, g3, g4, s5, g6, g7, g8, g9, g10, g11, g12, g13, g14, rfl, rfl, hw⟩ := hp
  refine V_wst [.int v1] (LW E h0 hh he ha m0 m1 m2 m3 g2 a0 g3 g4 s5 g6 g7 g8 g9 g10 g11 g12 g13 g14 a_now_m a_past_m n_saved_m a_errors_m n_hash_m) rfl rfl ?_
  refine V_aload_n hC 2 rfl rfl dL_law_161 ?_
  refine V_aload_n hC 0 rfl rfl dL_law_162 ?_
  refine V_iload_n hC 3 rfl rfl dL_law_163 ?_
  refine V_iconst hC 1 dL_law_164 (by decide) ?_
  refine V_iadd hC dL_law_165 ?_
  refine V_sld hC hX hw.1 dL_law_166 ?_
  have hw := hw.2
  refine V_callQ hC ((LW E h0 hh he ha m0 m1 m2 m3 g2 a0 g3 g4 s5 g6 g7 g8 g9 g10 g11 g12 g13 g14 a_now_m a_past_m n_saved_m a_errors_m n_hash_m).take 72) 1 [.int (xs (Int32.toNatClampNeg (x3 + 1)))] [.int v1] (ct_X9_advance l E m0 m1 m2 m3 a_now_m a_past_m n_saved_m a_errors_m n_hash_m (xs (Int32.toNatClampNeg (x3 + 1))) _ hw) wd_638 wd_40 wd_635 wd_636 wd_637 (by decide +kernel) rfl ⟨Nat.le_of_ble_eq_true rfl, Nat.le_of_ble_eq_true rfl⟩ rfl rfl rfl rfl (Nat.le_of_ble_eq_true rfl) ⟨Nat.le_of_ble_eq_true rfl, Nat.le_of_ble_eq_true rfl⟩ dL_law_167 (fun v ws' hp => ?_)
  obtain ⟨v15, g16, g17, s18, g19, rfl, rfl, hw⟩ := hp
  refine V_wst [.int v15, .int v1] (LW E h0 hh he ha m0 m1 m2 m3 g2 a0 g3 g4 s5 g6 g7 g8 g9 g10 g11 g12 g13 g14 g16 g17 s18 g19 n_hash_m) rfl rfl ?_
  refine V_icmp_eq hC 771 (by decide) dL_law_170 (fun c20 => ?_) (fun c20 => ?_)
  · have hw := hw.1 c20
    refine V_iinc hC (x3 + 5) 3 [(3, .int (x3 + 5)), (0, .ref b), (1, .ref h0), (2, .ref m0)] rfl (congrArg (fun z => x3 + z) (by decide : Int32.ofInt (5) = (5 : Int32))) (by decide) rfl dL_law_771 ?_
    refine V_goto hC 18 (by decide) dL_law_774 ?_
    refine V_lv [(0, .ref b), (1, .ref h0), (2, .ref m0), (3, .int (x3 + 5))] [1, 2, 3, 0] rfl ?_
    exact hJ (x3 + 5) g2 a0 g3 g4 s5 g6 g7 g8 g9 g10 g11 g12 g13 g14 g16 g17 s18 g19 n_hash_m hw
  · have hw := hw.2 c20
    refine V_iconst hC 0 dL_law_173 (by decide) ?_
    exact hw.elim
def wc_175 (L : Nat) (xs : Nat → Int32) (J : Int32 → (Nat → Int32) → (Nat → Nat) → (Nat → Int32) → (Nat → Nat → Int32) → Int32 → (Nat → Nat) → (Nat → Int32) → (Nat → Nat → Int32) → (Nat → Nat) → (Nat → Int32) → (Nat → Nat → Int32) → (Nat → Nat) → (Nat → Int32) → (Nat → Nat → Int32) → (Nat → Int32) → (Nat → Int32) → Int32 → (Nat → Int32) → Int64 → Prop) (x3 : Int32) (a_errors : Nat → Int32) (a0 : Nat → Nat) (n0 : Nat → Int32) (r0 : Nat → Nat → Int32) (n_saved : Int32) (a1 : Nat → Nat) (n1 : Nat → Int32) (r1 : Nat → Nat → Int32) (a2 : Nat → Nat) (n2 : Nat → Int32) (r2 : Nat → Nat → Int32) (a3 : Nat → Nat) (n3 : Nat → Int32) (r3 : Nat → Nat → Int32) (a_now_m : Nat → Int32) (a_past_m : Nat → Int32) (n_saved_m : Int32) (a_errors_m : Nat → Int32) (n_hash_m : Int64) : Prop := (vp_in (x3 + 1) L ∧ (wp_X8_rotateKey a_errors n0 r0 n_saved a1 n1 r1 a2 n2 r2 a3 n3 r3 (xs (Int32.toNatClampNeg (x3 + 1))) (fun (v1 : Int32) (g2 : Nat → Int32) (g3 : Nat → Int32) (s4 : Int32) (g5 : Nat → Nat) (g6 : Nat → Int32) (g7 : Nat → Nat → Int32) (g8 : Nat → Nat) (g9 : Nat → Int32) (g10 : Nat → Nat → Int32) (g11 : Nat → Nat) (g12 : Nat → Int32) (g13 : Nat → Nat → Int32) => (vp_in (x3 + 1) L ∧ (wp_X9_rotateKey a_now_m a_past_m n_saved_m a_errors_m n_hash_m (xs (Int32.toNatClampNeg (x3 + 1))) (fun (v14 : Int32) (g15 : Nat → Int32) (g16 : Nat → Int32) (s17 : Int32) (g18 : Nat → Int32) => ((v1 = v14 → J (x3 + 5) g2 a0 g3 r0 s4 g5 g6 g7 g8 g9 g10 g11 g12 g13 g15 g16 s17 g18 n_hash_m) ∧ (¬ (v1 = v14) → False))))))))
set_option maxRecDepth 100000 in
set_option maxHeartbeats 4000000 in
theorem bc_175 {p : Program} {l : Launch} {e : Env} {s : State} {m : MethodId} {below : List Frame} {meth : Method} {c : Code} {E : EN} {A : Nat → Prop} {b L : Nat} {xs : Nat → Int32} (hC : Cx p s m #[.ref b] meth c E A cL_law 4 "CookieServerLaw") (hr : meth.sig.returnType = ret) (hX : va_X b L xs s s.heap ∧ b < s.heap.size ∧ ¬ A b) (hA9 : ∀ q, A q → s.heap.size ≤ q) (h0 : Nat) (hh : Nat) (he : Nat) (ha : Nat) (m0 : Nat) (m1 : Nat) (m2 : Nat) (m3 : Nat) (J : Int32 → (Nat → Int32) → (Nat → Nat) → (Nat → Int32) → (Nat → Nat → Int32) → Int32 → (Nat → Nat) → (Nat → Int32) → (Nat → Nat → Int32) → (Nat → Nat) → (Nat → Int32) → (Nat → Nat → Int32) → (Nat → Nat) → (Nat → Int32) → (Nat → Nat → Int32) → (Nat → Int32) → (Nat → Int32) → Int32 → (Nat → Int32) → Int64 → Prop) (hJ : ∀ (x3 : Int32) (a_errors : Nat → Int32) (a0 : Nat → Nat) (n0 : Nat → Int32) (r0 : Nat → Nat → Int32) (n_saved : Int32) (a1 : Nat → Nat) (n1 : Nat → Int32) (r1 : Nat → Nat → Int32) (a2 : Nat → Nat) (n2 : Nat → Int32) (r2 : Nat → Nat → Int32) (a3 : Nat → Nat) (n3 : Nat → Int32) (r3 : Nat → Nat → Int32) (a_now_m : Nat → Int32) (a_past_m : Nat → Int32) (n_saved_m : Int32) (a_errors_m : Nat → Int32) (n_hash_m : Int64), J x3 a_errors a0 n0 r0 n_saved a1 n1 r1 a2 n2 r2 a3 n3 r3 a_now_m a_past_m n_saved_m a_errors_m n_hash_m → V p l e room_1 s m #[.ref b] below meth c E A 4 76 3239 (lw_Z below #[.ref b] s) 18 [(0, .ref b), (1, .ref h0), (2, .ref m0), (3, .int x3)] [] (LW E h0 hh he ha m0 m1 m2 m3 a_errors a0 n0 r0 n_saved a1 n1 r1 a2 n2 r2 a3 n3 r3 a_now_m a_past_m n_saved_m a_errors_m n_hash_m)) (x3 : Int32) (a_errors : Nat → Int32) (a0 : Nat → Nat) (n0 : Nat → Int32) (r0 : Nat → Nat → Int32) (n_saved : Int32) (a1 : Nat → Nat) (n1 : Nat → Int32) (r1 : Nat → Nat → Int32) (a2 : Nat → Nat) (n2 : Nat → Int32) (r2 : Nat → Nat → Int32) (a3 : Nat → Nat) (n3 : Nat → Int32) (r3 : Nat → Nat → Int32) (a_now_m : Nat → Int32) (a_past_m : Nat → Int32) (n_saved_m : Int32) (a_errors_m : Nat → Int32) (n_hash_m : Int64) (hw : wc_175 L xs J x3 a_errors a0 n0 r0 n_saved a1 n1 r1 a2 n2 r2 a3 n3 r3 a_now_m a_past_m n_saved_m a_errors_m n_hash_m) : V p l e room_1 s m #[.ref b] below meth c E A 4 76 3239 (lw_Z below #[.ref b] s) 175 [(0, .ref b), (1, .ref h0), (2, .ref m0), (3, .int x3)] [] (LW E h0 hh he ha m0 m1 m2 m3 a_errors a0 n0 r0 n_saved a1 n1 r1 a2 n2 r2 a3 n3 r3 a_now_m a_past_m n_saved_m a_errors_m n_hash_m) := by
  rw [wc_175] at hw
  refine V_aload_n hC 1 rfl rfl dL_law_175 ?_
  refine V_aload_n hC 0 rfl rfl dL_law_176 ?_
  refine V_iload_n hC 3 rfl rfl dL_law_177 ?_
  refine V_iconst hC 1 dL_law_178 (by decide) ?_
  refine V_iadd hC dL_law_179 ?_
  refine V_sld hC hX hw.1 dL_law_180 ?_
  have hw := hw.2
  refine V_callP hC ((LW E h0 hh he ha m0 m1 m2 m3 a_errors a0 n0 r0 n_saved a1 n1 r1 a2 n2 r2 a3 n3 r3 a_now_m a_past_m n_saved_m a_errors_m n_hash_m).drop 72) 1 [.int (xs (Int32.toNatClampNeg (x3 + 1)))] [] (ct_X8_rotateKey l E h0 hh he a0 ha a_errors n0 r0 n_saved a1 n1 r1 a2 n2 r2 a3 n3 r3 (xs (Int32.toNatClampNeg (x3 + 1))) _ hw) wd_306 wd_32 wd_303 wd_304 wd_305 (by decide +kernel) rfl ⟨Nat.le_of_ble_eq_true rfl, Nat.le_of_ble_eq_true rfl⟩ rfl rfl rfl rfl (Nat.le_of_ble_eq_true rfl) ⟨Nat.le_of_ble_eq_true rfl, Nat.le_of_ble_eq_true rfl⟩ dL_law_181 (fun v ws' hp => ?_)
  obtain ⟨v1, g2, g3, s4, g5, g6, g7, g8, g9, g10, g11, g12, g13, rfl, rfl, hw⟩ := hp
  refine V_wst [.int v1] (LW E h0 hh he ha m0 m1 m2 m3 g2 a0 g3 r0 s4 g5 g6 g7 g8 g9 g10 g11 g12 g13 a_now_m a_past_m n_saved_m a_errors_m n_hash_m) rfl rfl ?_
  refine V_aload_n hC 2 rfl rfl dL_law_184 ?_
  refine V_aload_n hC 0 rfl rfl dL_law_185 ?_
  refine V_iload_n hC 3 rfl rfl dL_law_186 ?_
  refine V_iconst hC 1 dL_law_187 (by decide) ?_
  refine V_iadd hC dL_law_188 ?_
  refine V_sld hC hX hw.1 dL_law_189 ?_
  have hw := hw.2
  refine V_callQ hC ((LW E h0 hh he ha m0 m1 m2 m3 g2 a0 g3 r0 s4 g5 g6 g7 g8 g9 g10 g11 g12 g13 a_now_m a_past_m n_saved_m a_errors_m n_hash_m).take 72) 1 [.int (xs (Int32.toNatClampNeg (x3 + 1)))] [.int v1] (ct_X9_rotateKey l E m0 m1 m2 m3 a_now_m a_past_m n_saved_m a_errors_m n_hash_m (xs (Int32.toNatClampNeg (x3 + 1))) _ hw) wd_669 wd_40 wd_666 wd_667 wd_668 (by decide +kernel) rfl ⟨Nat.le_of_ble_eq_true rfl, Nat.le_of_ble_eq_true rfl⟩ rfl rfl rfl rfl (Nat.le_of_ble_eq_true rfl) ⟨Nat.le_of_ble_eq_true rfl, Nat.le_of_ble_eq_true rfl⟩ dL_law_190 (fun v ws' hp => ?_)
  obtain ⟨v14, g15, g16, s17, g18, rfl, rfl, hw⟩ := hp
  refine V_wst [.int v14, .int v1] (LW E h0 hh he ha m0 m1 m2 m3 g2 a0 g3 r0 s4 g5 g6 g7 g8 g9 g10 g11 g12 g13 g15 g16 s17 g18 n_hash_m) rfl rfl ?_
  refine V_icmp_eq hC 771 (by decide) dL_law_193 (fun c19 => ?_) (fun c19 => ?_)
  · have hw := hw.1 c19
    refine V_iinc hC (x3 + 5) 3 [(3, .int (x3 + 5)), (0, .ref b), (1, .ref h0), (2, .ref m0)] rfl (congrArg (fun z => x3 + z) (by decide : Int32.ofInt (5) = (5 : Int32))) (by decide) rfl dL_law_771 ?_
    refine V_goto hC 18 (by decide) dL_law_774 ?_
    refine V_lv [(0, .ref b), (1, .ref h0), (2, .ref m0), (3, .int (x3 + 5))] [1, 2, 3, 0] rfl ?_
    exact hJ (x3 + 5) g2 a0 g3 r0 s4 g5 g6 g7 g8 g9 g10 g11 g12 g13 g15 g16 s17 g18 n_hash_m hw
  · have hw := hw.2 c19
    refine V_iconst hC 0 dL_law_196 (by decide) ?_
    exact hw.elim
def wc_198 (L : Nat) (xs : Nat → Int32) (J : Int32 → (Nat → Int32) → (Nat → Nat) → (Nat → Int32) → (Nat → Nat → Int32) → Int32 → (Nat → Nat) → (Nat → Int32) → (Nat → Nat → Int32) → (Nat → Nat) → (Nat → Int32) → (Nat → Nat → Int32) → (Nat → Nat) → (Nat → Int32) → (Nat → Nat → Int32) → (Nat → Int32) → (Nat → Int32) → Int32 → (Nat → Int32) → Int64 → Prop) (x3 : Int32) (a_errors : Nat → Int32) (a0 : Nat → Nat) (n0 : Nat → Int32) (r0 : Nat → Nat → Int32) (n_saved : Int32) (a1 : Nat → Nat) (n1 : Nat → Int32) (r1 : Nat → Nat → Int32) (a2 : Nat → Nat) (n2 : Nat → Int32) (r2 : Nat → Nat → Int32) (a3 : Nat → Nat) (n3 : Nat → Int32) (r3 : Nat → Nat → Int32) (a_now_m : Nat → Int32) (a_past_m : Nat → Int32) (n_saved_m : Int32) (a_errors_m : Nat → Int32) (n_hash_m : Int64) : Prop := (vp_in (x3 + 1) L ∧ (vp_in (x3 + 2) L ∧ (vp_in (x3 + 3) L ∧ (wp_X8_open a_errors n0 r0 n_saved a1 n1 r1 a2 n2 r2 a3 n3 r3 (xs (Int32.toNatClampNeg (x3 + 1))) (xs (Int32.toNatClampNeg (x3 + 2))) (xs (Int32.toNatClampNeg (x3 + 3))) (fun (v1 : Int32) (g2 : Nat → Int32) (g3 : Nat → Int32) (g4 : Nat → Nat → Int32) (s5 : Int32) (g6 : Nat → Nat) (g7 : Nat → Int32) (g8 : Nat → Nat → Int32) (g9 : Nat → Nat) (g10 : Nat → Int32) (g11 : Nat → Nat → Int32) (g12 : Nat → Nat) (g13 : Nat → Int32) (g14 : Nat → Nat → Int32) => (vp_in (x3 + 1) L ∧ (vp_in (x3 + 2) L ∧ (vp_in (x3 + 3) L ∧ (wp_X9_open a_now_m a_past_m n_saved_m a_errors_m n_hash_m (xs (Int32.toNatClampNeg (x3 + 1))) (xs (Int32.toNatClampNeg (x3 + 2))) (xs (Int32.toNatClampNeg (x3 + 3))) (fun (v15 : Int32) (g16 : Nat → Int32) (g17 : Nat → Int32) (s18 : Int32) (g19 : Nat → Int32) => ((v1 = v15 → J (x3 + 5) g2 a0 g3 g4 s5 g6 g7 g8 g9 g10 g11 g12 g13 g14 g16 g17 s18 g19 n_hash_m) ∧ (¬ (v1 = v15) → False))))))))))))
set_option maxRecDepth 100000 in
set_option maxHeartbeats 4000000 in
theorem bc_198 {p : Program} {l : Launch} {e : Env} {s : State} {m : MethodId} {below : List Frame} {meth : Method} {c : Code} {E : EN} {A : Nat → Prop} {b L : Nat} {xs : Nat → Int32} (hC : Cx p s m #[.ref b] meth c E A cL_law 4 "CookieServerLaw") (hr : meth.sig.returnType = ret) (hX : va_X b L xs s s.heap ∧ b < s.heap.size ∧ ¬ A b) (hA9 : ∀ q, A q → s.heap.size ≤ q) (h0 : Nat) (hh : Nat) (he : Nat) (ha : Nat) (m0 : Nat) (m1 : Nat) (m2 : Nat) (m3 : Nat) (J : Int32 → (Nat → Int32) → (Nat → Nat) → (Nat → Int32) → (Nat → Nat → Int32) → Int32 → (Nat → Nat) → (Nat → Int32) → (Nat → Nat → Int32) → (Nat → Nat) → (Nat → Int32) → (Nat → Nat → Int32) → (Nat → Nat) → (Nat → Int32) → (Nat → Nat → Int32) → (Nat → Int32) → (Nat → Int32) → Int32 → (Nat → Int32) → Int64 → Prop) (hJ : ∀ (x3 : Int32) (a_errors : Nat → Int32) (a0 : Nat → Nat) (n0 : Nat → Int32) (r0 : Nat → Nat → Int32) (n_saved : Int32) (a1 : Nat → Nat) (n1 : Nat → Int32) (r1 : Nat → Nat → Int32) (a2 : Nat → Nat) (n2 : Nat → Int32) (r2 : Nat → Nat → Int32) (a3 : Nat → Nat) (n3 : Nat → Int32) (r3 : Nat → Nat → Int32) (a_now_m : Nat → Int32) (a_past_m : Nat → Int32) (n_saved_m : Int32) (a_errors_m : Nat → Int32) (n_hash_m : Int64), J x3 a_errors a0 n0 r0 n_saved a1 n1 r1 a2 n2 r2 a3 n3 r3 a_now_m a_past_m n_saved_m a_errors_m n_hash_m → V p l e room_1 s m #[.ref b] below meth c E A 4 76 3239 (lw_Z below #[.ref b] s) 18 [(0, .ref b), (1, .ref h0), (2, .ref m0), (3, .int x3)] [] (LW E h0 hh he ha m0 m1 m2 m3 a_errors a0 n0 r0 n_saved a1 n1 r1 a2 n2 r2 a3 n3 r3 a_now_m a_past_m n_saved_m a_errors_m n_hash_m)) (x3 : Int32) (a_errors : Nat → Int32) (a0 : Nat → Nat) (n0 : Nat → Int32) (r0 : Nat → Nat → Int32) (n_saved : Int32) (a1 : Nat → Nat) (n1 : Nat → Int32) (r1 : Nat → Nat → Int32) (a2 : Nat → Nat) (n2 : Nat → Int32) (r2 : Nat → Nat → Int32) (a3 : Nat → Nat) (n3 : Nat → Int32) (r3 : Nat → Nat → Int32) (a_now_m : Nat → Int32) (a_past_m : Nat → Int32) (n_saved_m : Int32) (a_errors_m : Nat → Int32) (n_hash_m : Int64) (hw : wc_198 L xs J x3 a_errors a0 n0 r0 n_saved a1 n1 r1 a2 n2 r2 a3 n3 r3 a_now_m a_past_m n_saved_m a_errors_m n_hash_m) : V p l e room_1 s m #[.ref b] below meth c E A 4 76 3239 (lw_Z below #[.ref b] s) 198 [(0, .ref b), (1, .ref h0), (2, .ref m0), (3, .int x3)] [] (LW E h0 hh he ha m0 m1 m2 m3 a_errors a0 n0 r0 n_saved a1 n1 r1 a2 n2 r2 a3 n3 r3 a_now_m a_past_m n_saved_m a_errors_m n_hash_m) := by
  rw [wc_198] at hw
  refine V_aload_n hC 1 rfl rfl dL_law_198 ?_
  refine V_aload_n hC 0 rfl rfl dL_law_199 ?_
  refine V_iload_n hC 3 rfl rfl dL_law_200 ?_
  refine V_iconst hC 1 dL_law_201 (by decide) ?_
  refine V_iadd hC dL_law_202 ?_
  refine V_sld hC hX hw.1 dL_law_203 ?_
  have hw := hw.2
  refine V_aload_n hC 0 rfl rfl dL_law_204 ?_
  refine V_iload_n hC 3 rfl rfl dL_law_205 ?_
  refine V_iconst hC 2 dL_law_206 (by decide) ?_
  refine V_iadd hC dL_law_207 ?_
  refine V_sld hC hX hw.1 dL_law_208 ?_
  have hw := hw.2
  refine V_aload_n hC 0 rfl rfl dL_law_209 ?_
  refine V_iload_n hC 3 rfl rfl dL_law_210 ?_
  refine V_iconst hC 3 dL_law_211 (by decide) ?_
  refine V_iadd hC dL_law_212 ?_
  refine V_sld hC hX hw.1 dL_law_213 ?_
  have hw := hw.2
  refine V_callP hC ((LW E h0 hh he ha m0 m1 m2 m3 a_errors a0 n0 r0 n_saved a1 n1 r1 a2 n2 r2 a3 n3 r3 a_now_m a_past_m n_saved_m a_errors_m n_hash_m).drop 72) 3 [.int (xs (Int32.toNatClampNeg (x3 + 1))), .int (xs (Int32.toNatClampNeg (x3 + 2))), .int (xs (Int32.toNatClampNeg (x3 + 3)))] [] (ct_X8_open l E h0 hh he a0 ha a_errors n0 r0 n_saved a1 n1 r1 a2 n2 r2 a3 n3 r3 (xs (Int32.toNatClampNeg (x3 + 1))) (xs (Int32.toNatClampNeg (x3 + 2))) (xs (Int32.toNatClampNeg (x3 + 3))) _ hw) wd_311 wd_32 wd_308 wd_309 wd_310 (by decide +kernel) rfl ⟨Nat.le_of_ble_eq_true rfl, Nat.le_of_ble_eq_true rfl⟩ rfl rfl rfl rfl (Nat.le_of_ble_eq_true rfl) ⟨Nat.le_of_ble_eq_true rfl, Nat.le_of_ble_eq_true rfl⟩ dL_law_214 (fun v ws' hp => ?_)
  obtain ⟨v1, g2, g3, g4, s5, g6, g7, g8, g9, g10, g11, g12, g13, g14, rfl, rfl, hw⟩ := hp
  refine V_wst [.int v1] (LW E h0 hh he ha m0 m1 m2 m3 g2 a0 g3 g4 s5 g6 g7 g8 g9 g10 g11 g12 g13 g14 a_now_m a_past_m n_saved_m a_errors_m n_hash_m) rfl rfl ?_
  refine V_aload_n hC 2 rfl rfl dL_law_217 ?_
  refine V_aload_n hC 0 rfl rfl dL_law_218 ?_
  refine V_iload_n hC 3 rfl rfl dL_law_219 ?_
  refine V_iconst hC 1 dL_law_220 (by decide) ?_
  refine V_iadd hC dL_law_221 ?_
  refine V_sld hC hX hw.1 dL_law_222 ?_
  have hw := hw.2
  refine V_aload_n hC 0 rfl rfl dL_law_223 ?_
  refine V_iload_n hC 3 rfl rfl dL_law_224 ?_
  refine V_iconst hC 2 dL_law_225 (by decide) ?_
  refine V_iadd hC dL_law_226 ?_
  refine V_sld hC hX hw.1 dL_law_227 ?_
  have hw := hw.2
  refine V_aload_n hC 0 rfl rfl dL_law_228 ?_
  refine V_iload_n hC 3 rfl rfl dL_law_229 ?_
  refine V_iconst hC 3 dL_law_230 (by decide) ?_
  refine V_iadd hC dL_law_231 ?_
  refine V_sld hC hX hw.1 dL_law_232 ?_
  have hw := hw.2
  refine V_callQ hC ((LW E h0 hh he ha m0 m1 m2 m3 g2 a0 g3 g4 s5 g6 g7 g8 g9 g10 g11 g12 g13 g14 a_now_m a_past_m n_saved_m a_errors_m n_hash_m).take 72) 3 [.int (xs (Int32.toNatClampNeg (x3 + 1))), .int (xs (Int32.toNatClampNeg (x3 + 2))), .int (xs (Int32.toNatClampNeg (x3 + 3)))] [.int v1] (ct_X9_open l E m0 m1 m2 m3 a_now_m a_past_m n_saved_m a_errors_m n_hash_m (xs (Int32.toNatClampNeg (x3 + 1))) (xs (Int32.toNatClampNeg (x3 + 2))) (xs (Int32.toNatClampNeg (x3 + 3))) _ hw) wd_674 wd_40 wd_671 wd_672 wd_673 (by decide +kernel) rfl ⟨Nat.le_of_ble_eq_true rfl, Nat.le_of_ble_eq_true rfl⟩ rfl rfl rfl rfl (Nat.le_of_ble_eq_true rfl) ⟨Nat.le_of_ble_eq_true rfl, Nat.le_of_ble_eq_true rfl⟩ dL_law_233 (fun v ws' hp => ?_)
  obtain ⟨v15, g16, g17, s18, g19, rfl, rfl, hw⟩ := hp
  refine V_wst [.int v15, .int v1] (LW E h0 hh he ha m0 m1 m2 m3 g2 a0 g3 g4 s5 g6 g7 g8 g9 g10 g11 g12 g13 g14 g16 g17 s18 g19 n_hash_m) rfl rfl ?_
  refine V_icmp_eq hC 771 (by decide) dL_law_236 (fun c20 => ?_) (fun c20 => ?_)
  · have hw := hw.1 c20
    refine V_iinc hC (x3 + 5) 3 [(3, .int (x3 + 5)), (0, .ref b), (1, .ref h0), (2, .ref m0)] rfl (congrArg (fun z => x3 + z) (by decide : Int32.ofInt (5) = (5 : Int32))) (by decide) rfl dL_law_771 ?_
    refine V_goto hC 18 (by decide) dL_law_774 ?_
    refine V_lv [(0, .ref b), (1, .ref h0), (2, .ref m0), (3, .int (x3 + 5))] [1, 2, 3, 0] rfl ?_
    exact hJ (x3 + 5) g2 a0 g3 g4 s5 g6 g7 g8 g9 g10 g11 g12 g13 g14 g16 g17 s18 g19 n_hash_m hw
  · have hw := hw.2 c20
    refine V_iconst hC 0 dL_law_239 (by decide) ?_
    exact hw.elim
def wc_241 (L : Nat) (xs : Nat → Int32) (J : Int32 → (Nat → Int32) → (Nat → Nat) → (Nat → Int32) → (Nat → Nat → Int32) → Int32 → (Nat → Nat) → (Nat → Int32) → (Nat → Nat → Int32) → (Nat → Nat) → (Nat → Int32) → (Nat → Nat → Int32) → (Nat → Nat) → (Nat → Int32) → (Nat → Nat → Int32) → (Nat → Int32) → (Nat → Int32) → Int32 → (Nat → Int32) → Int64 → Prop) (x3 : Int32) (a_errors : Nat → Int32) (a0 : Nat → Nat) (n0 : Nat → Int32) (r0 : Nat → Nat → Int32) (n_saved : Int32) (a1 : Nat → Nat) (n1 : Nat → Int32) (r1 : Nat → Nat → Int32) (a2 : Nat → Nat) (n2 : Nat → Int32) (r2 : Nat → Nat → Int32) (a3 : Nat → Nat) (n3 : Nat → Int32) (r3 : Nat → Nat → Int32) (a_now_m : Nat → Int32) (a_past_m : Nat → Int32) (n_saved_m : Int32) (a_errors_m : Nat → Int32) (n_hash_m : Int64) : Prop := (vp_in (x3 + 1) L ∧ (vp_in (x3 + 2) L ∧ (vp_in (x3 + 3) L ∧ (vp_in (x3 + 4) L ∧ (wp_X8_accept a_errors n0 r0 n_saved a1 n1 r1 a2 n2 r2 a3 n3 r3 (xs (Int32.toNatClampNeg (x3 + 1))) (xs (Int32.toNatClampNeg (x3 + 2))) (xs (Int32.toNatClampNeg (x3 + 3))) (xs (Int32.toNatClampNeg (x3 + 4))) (fun (v1 : Int32) (g2 : Nat → Int32) (g3 : Nat → Int32) (g4 : Nat → Nat → Int32) (s5 : Int32) (g6 : Nat → Nat) (g7 : Nat → Int32) (g8 : Nat → Nat → Int32) (g9 : Nat → Nat) (g10 : Nat → Int32) (g11 : Nat → Nat → Int32) (g12 : Nat → Nat) (g13 : Nat → Int32) (g14 : Nat → Nat → Int32) => (vp_in (x3 + 1) L ∧ (vp_in (x3 + 2) L ∧ (vp_in (x3 + 3) L ∧ (vp_in (x3 + 4) L ∧ (wp_X9_accept a_now_m a_past_m n_saved_m a_errors_m n_hash_m (xs (Int32.toNatClampNeg (x3 + 1))) (xs (Int32.toNatClampNeg (x3 + 2))) (xs (Int32.toNatClampNeg (x3 + 3))) (xs (Int32.toNatClampNeg (x3 + 4))) (fun (v15 : Int32) (g16 : Nat → Int32) (g17 : Nat → Int32) (s18 : Int32) (g19 : Nat → Int32) => ((v1 = v15 → J (x3 + 5) g2 a0 g3 g4 s5 g6 g7 g8 g9 g10 g11 g12 g13 g14 g16 g17 s18 g19 n_hash_m) ∧ (¬ (v1 = v15) → False))))))))))))))
set_option maxRecDepth 100000 in
set_option maxHeartbeats 4000000 in
theorem bc_241 {p : Program} {l : Launch} {e : Env} {s : State} {m : MethodId} {below : List Frame} {meth : Method} {c : Code} {E : EN} {A : Nat → Prop} {b L : Nat} {xs : Nat → Int32} (hC : Cx p s m #[.ref b] meth c E A cL_law 4 "CookieServerLaw") (hr : meth.sig.returnType = ret) (hX : va_X b L xs s s.heap ∧ b < s.heap.size ∧ ¬ A b) (hA9 : ∀ q, A q → s.heap.size ≤ q) (h0 : Nat) (hh : Nat) (he : Nat) (ha : Nat) (m0 : Nat) (m1 : Nat) (m2 : Nat) (m3 : Nat) (J : Int32 → (Nat → Int32) → (Nat → Nat) → (Nat → Int32) → (Nat → Nat → Int32) → Int32 → (Nat → Nat) → (Nat → Int32) → (Nat → Nat → Int32) → (Nat → Nat) → (Nat → Int32) → (Nat → Nat → Int32) → (Nat → Nat) → (Nat → Int32) → (Nat → Nat → Int32) → (Nat → Int32) → (Nat → Int32) → Int32 → (Nat → Int32) → Int64 → Prop) (hJ : ∀ (x3 : Int32) (a_errors : Nat → Int32) (a0 : Nat → Nat) (n0 : Nat → Int32) (r0 : Nat → Nat → Int32) (n_saved : Int32) (a1 : Nat → Nat) (n1 : Nat → Int32) (r1 : Nat → Nat → Int32) (a2 : Nat → Nat) (n2 : Nat → Int32) (r2 : Nat → Nat → Int32) (a3 : Nat → Nat) (n3 : Nat → Int32) (r3 : Nat → Nat → Int32) (a_now_m : Nat → Int32) (a_past_m : Nat → Int32) (n_saved_m : Int32) (a_errors_m : Nat → Int32) (n_hash_m : Int64), J x3 a_errors a0 n0 r0 n_saved a1 n1 r1 a2 n2 r2 a3 n3 r3 a_now_m a_past_m n_saved_m a_errors_m n_hash_m → V p l e room_1 s m #[.ref b] below meth c E A 4 76 3239 (lw_Z below #[.ref b] s) 18 [(0, .ref b), (1, .ref h0), (2, .ref m0), (3, .int x3)] [] (LW E h0 hh he ha m0 m1 m2 m3 a_errors a0 n0 r0 n_saved a1 n1 r1 a2 n2 r2 a3 n3 r3 a_now_m a_past_m n_saved_m a_errors_m n_hash_m)) (x3 : Int32) (a_errors : Nat → Int32) (a0 : Nat → Nat) (n0 : Nat → Int32) (r0 : Nat → Nat → Int32) (n_saved : Int32) (a1 : Nat → Nat) (n1 : Nat → Int32) (r1 : Nat → Nat → Int32) (a2 : Nat → Nat) (n2 : Nat → Int32) (r2 : Nat → Nat → Int32) (a3 : Nat → Nat) (n3 : Nat → Int32) (r3 : Nat → Nat → Int32) (a_now_m : Nat → Int32) (a_past_m : Nat → Int32) (n_saved_m : Int32) (a_errors_m : Nat → Int32) (n_hash_m : Int64) (hw : wc_241 L xs J x3 a_errors a0 n0 r0 n_saved a1 n1 r1 a2 n2 r2 a3 n3 r3 a_now_m a_past_m n_saved_m a_errors_m n_hash_m) : V p l e room_1 s m #[.ref b] below meth c E A 4 76 3239 (lw_Z below #[.ref b] s) 241 [(0, .ref b), (1, .ref h0), (2, .ref m0), (3, .int x3)] [] (LW E h0 hh he ha m0 m1 m2 m3 a_errors a0 n0 r0 n_saved a1 n1 r1 a2 n2 r2 a3 n3 r3 a_now_m a_past_m n_saved_m a_errors_m n_hash_m) := by
  rw [wc_241] at hw
  refine V_aload_n hC 1 rfl rfl dL_law_241 ?_
  refine V_aload_n hC 0 rfl rfl dL_law_242 ?_
  refine V_iload_n hC 3 rfl rfl dL_law_243 ?_
  refine V_iconst hC 1 dL_law_244 (by decide) ?_
  refine V_iadd hC dL_law_245 ?_
  refine V_sld hC hX hw.1 dL_law_246 ?_
  have hw := hw.2
  refine V_aload_n hC 0 rfl rfl dL_law_247 ?_
  refine V_iload_n hC 3 rfl rfl dL_law_248 ?_
  refine V_iconst hC 2 dL_law_249 (by decide) ?_
  refine V_iadd hC dL_law_250 ?_
  refine V_sld hC hX hw.1 dL_law_251 ?_
  have hw := hw.2
  refine V_aload_n hC 0 rfl rfl dL_law_252 ?_
  refine V_iload_n hC 3 rfl rfl dL_law_253 ?_
  refine V_iconst hC 3 dL_law_254 (by decide) ?_
  refine V_iadd hC dL_law_255 ?_
  refine V_sld hC hX hw.1 dL_law_256 ?_
  have hw := hw.2
  refine V_aload_n hC 0 rfl rfl dL_law_257 ?_
  refine V_iload_n hC 3 rfl rfl dL_law_258 ?_
  refine V_iconst hC 4 dL_law_259 (by decide) ?_
  refine V_iadd hC dL_law_260 ?_
  refine V_sld hC hX hw.1 dL_law_261 ?_
  have hw := hw.2
  refine V_callP hC ((LW E h0 hh he ha m0 m1 m2 m3 a_errors a0 n0 r0 n_saved a1 n1 r1 a2 n2 r2 a3 n3 r3 a_now_m a_past_m n_saved_m a_errors_m n_hash_m).drop 72) 4 [.int (xs (Int32.toNatClampNeg (x3 + 1))), .int (xs (Int32.toNatClampNeg (x3 + 2))), .int (xs (Int32.toNatClampNeg (x3 + 3))), .int (xs (Int32.toNatClampNeg (x3 + 4)))] [] (ct_X8_accept l E h0 hh he a0 ha a_errors n0 r0 n_saved a1 n1 r1 a2 n2 r2 a3 n3 r3 (xs (Int32.toNatClampNeg (x3 + 1))) (xs (Int32.toNatClampNeg (x3 + 2))) (xs (Int32.toNatClampNeg (x3 + 3))) (xs (Int32.toNatClampNeg (x3 + 4))) _ hw) wd_361 wd_32 wd_358 wd_359 wd_360 (by decide +kernel) rfl ⟨Nat.le_of_ble_eq_true rfl, Nat.le_of_ble_eq_true rfl⟩ rfl rfl rfl rfl (Nat.le_of_ble_eq_true rfl) ⟨Nat.le_of_ble_eq_true rfl, Nat.le_of_ble_eq_true rfl⟩ dL_law_262 (fun v ws' hp => ?_)
  obtain ⟨v1, g2, g3, g4, s5, g6, g7, g8, g9, g10, g11, g12, g13, g14, rfl, rfl, hw⟩ := hp
  refine V_wst [.int v1] (LW E h0 hh he ha m0 m1 m2 m3 g2 a0 g3 g4 s5 g6 g7 g8 g9 g10 g11 g12 g13 g14 a_now_m a_past_m n_saved_m a_errors_m n_hash_m) rfl rfl ?_
  refine V_aload_n hC 2 rfl rfl dL_law_265 ?_
  refine V_aload_n hC 0 rfl rfl dL_law_266 ?_
  refine V_iload_n hC 3 rfl rfl dL_law_267 ?_
  refine V_iconst hC 1 dL_law_268 (by decide) ?_
  refine V_iadd hC dL_law_269 ?_
  refine V_sld hC hX hw.1 dL_law_270 ?_
  have hw := hw.2
  refine V_aload_n hC 0 rfl rfl dL_law_271 ?_
  refine V_iload_n hC 3 rfl rfl dL_law_272 ?_
  refine V_iconst hC 2 dL_law_273 (by decide) ?_
  refine V_iadd hC dL_law_274 ?_
  refine V_sld hC hX hw.1 dL_law_275 ?_
  have hw := hw.2
  refine V_aload_n hC 0 rfl rfl dL_law_276 ?_
  refine V_iload_n hC 3 rfl rfl dL_law_277 ?_
  refine V_iconst hC 3 dL_law_278 (by decide) ?_
  refine V_iadd hC dL_law_279 ?_
  refine V_sld hC hX hw.1 dL_law_280 ?_
  have hw := hw.2
  refine V_aload_n hC 0 rfl rfl dL_law_281 ?_
  refine V_iload_n hC 3 rfl rfl dL_law_282 ?_
  refine V_iconst hC 4 dL_law_283 (by decide) ?_
  refine V_iadd hC dL_law_284 ?_
  refine V_sld hC hX hw.1 dL_law_285 ?_
  have hw := hw.2
  refine V_callQ hC ((LW E h0 hh he ha m0 m1 m2 m3 g2 a0 g3 g4 s5 g6 g7 g8 g9 g10 g11 g12 g13 g14 a_now_m a_past_m n_saved_m a_errors_m n_hash_m).take 72) 4 [.int (xs (Int32.toNatClampNeg (x3 + 1))), .int (xs (Int32.toNatClampNeg (x3 + 2))), .int (xs (Int32.toNatClampNeg (x3 + 3))), .int (xs (Int32.toNatClampNeg (x3 + 4)))] [.int v1] (ct_X9_accept l E m0 m1 m2 m3 a_now_m a_past_m n_saved_m a_errors_m n_hash_m (xs (Int32.toNatClampNeg (x3 + 1))) (xs (Int32.toNatClampNeg (x3 + 2))) (xs (Int32.toNatClampNeg (x3 + 3))) (xs (Int32.toNatClampNeg (x3 + 4))) _ hw) wd_712 wd_40 wd_709 wd_710 wd_711 (by decide +kernel) rfl ⟨Nat.le_of_ble_eq_true rfl, Nat.le_of_ble_eq_true rfl⟩ rfl rfl rfl rfl (Nat.le_of_ble_eq_true rfl) ⟨Nat.le_of_ble_eq_true rfl, Nat.le_of_ble_eq_true rfl⟩ dL_law_286 (fun v ws' hp => ?_)
  obtain ⟨v15, g16, g17, s18, g19, rfl, rfl, hw⟩ := hp
  refine V_wst [.int v15, .int v1] (LW E h0 hh he ha m0 m1 m2 m3 g2 a0 g3 g4 s5 g6 g7 g8 g9 g10 g11 g12 g13 g14 g16 g17 s18 g19 n_hash_m) rfl rfl ?_
  refine V_icmp_eq hC 771 (by decide) dL_law_289 (fun c20 => ?_) (fun c20 => ?_)
  · have hw := hw.1 c20
    refine V_iinc hC (x3 + 5) 3 [(3, .int (x3 + 5)), (0, .ref b), (1, .ref h0), (2, .ref m0)] rfl (congrArg (fun z => x3 + z) (by decide : Int32.ofInt (5) = (5 : Int32))) (by decide) rfl dL_law_771 ?_
    refine V_goto hC 18 (by decide) dL_law_774 ?_
    refine V_lv [(0, .ref b), (1, .ref h0), (2, .ref m0), (3, .int (x3 + 5))] [1, 2, 3, 0] rfl ?_
    exact hJ (x3 + 5) g2 a0 g3 g4 s5 g6 g7 g8 g9 g10 g11 g12 g13 g14 g16 g17 s18 g19 n_hash_m hw
  · have hw := hw.2 c20
    refine V_iconst hC 0 dL_law_292 (by decide) ?_
    exact hw.elim
def wc_294 (L : Nat) (xs : Nat → Int32) (J : Int32 → (Nat → Int32) → (Nat → Nat) → (Nat → Int32) → (Nat → Nat → Int32) → Int32 → (Nat → Nat) → (Nat → Int32) → (Nat → Nat → Int32) → (Nat → Nat) → (Nat → Int32) → (Nat → Nat → Int32) → (Nat → Nat) → (Nat → Int32) → (Nat → Nat → Int32) → (Nat → Int32) → (Nat → Int32) → Int32 → (Nat → Int32) → Int64 → Prop) (x3 : Int32) (a_errors : Nat → Int32) (a0 : Nat → Nat) (n0 : Nat → Int32) (r0 : Nat → Nat → Int32) (n_saved : Int32) (a1 : Nat → Nat) (n1 : Nat → Int32) (r1 : Nat → Nat → Int32) (a2 : Nat → Nat) (n2 : Nat → Int32) (r2 : Nat → Nat → Int32) (a3 : Nat → Nat) (n3 : Nat → Int32) (r3 : Nat → Nat → Int32) (a_now_m : Nat → Int32) (a_past_m : Nat → Int32) (n_saved_m : Int32) (a_errors_m : Nat → Int32) (n_hash_m : Int64) : Prop := (vp_in (x3 + 1) L ∧ (vp_in (x3 + 2) L ∧ (wp_X8_close a_errors n0 r0 n_saved a1 n1 r1 a2 n2 r2 a3 n3 r3 (xs (Int32.toNatClampNeg (x3 + 1))) (xs (Int32.toNatClampNeg (x3 + 2))) (fun (v1 : Int32) (g2 : Nat → Int32) (g3 : Nat → Int32) (g4 : Nat → Nat → Int32) (s5 : Int32) (g6 : Nat → Nat) (g7 : Nat → Int32) (g8 : Nat → Nat → Int32) (g9 : Nat → Nat) (g10 : Nat → Int32) (g11 : Nat → Nat → Int32) (g12 : Nat → Nat) (g13 : Nat → Int32) (g14 : Nat → Nat → Int32) => (vp_in (x3 + 1) L ∧ (vp_in (x3 + 2) L ∧ (wp_X9_close a_now_m a_past_m n_saved_m a_errors_m n_hash_m (xs (Int32.toNatClampNeg (x3 + 1))) (xs (Int32.toNatClampNeg (x3 + 2))) (fun (v15 : Int32) (g16 : Nat → Int32) (g17 : Nat → Int32) (s18 : Int32) (g19 : Nat → Int32) => ((v1 = v15 → J (x3 + 5) g2 a0 g3 g4 s5 g6 g7 g8 g9 g10 g11 g12 g13 g14 g16 g17 s18 g19 n_hash_m) ∧ (¬ (v1 = v15) → False))))))))))
set_option maxRecDepth 100000 in
set_option maxHeartbeats 4000000 in
theorem bc_294 {p : Program} {l : Launch} {e : Env} {s : State} {m : MethodId} {below : List Frame} {meth : Method} {c : Code} {E : EN} {A : Nat → Prop} {b L : Nat} {xs : Nat → Int32} (hC : Cx p s m #[.ref b] meth c E A cL_law 4 "CookieServerLaw") (hr : meth.sig.returnType = ret) (hX : va_X b L xs s s.heap ∧ b < s.heap.size ∧ ¬ A b) (hA9 : ∀ q, A q → s.heap.size ≤ q) (h0 : Nat) (hh : Nat) (he : Nat) (ha : Nat) (m0 : Nat) (m1 : Nat) (m2 : Nat) (m3 : Nat) (J : Int32 → (Nat → Int32) → (Nat → Nat) → (Nat → Int32) → (Nat → Nat → Int32) → Int32 → (Nat → Nat) → (Nat → Int32) → (Nat → Nat → Int32) → (Nat → Nat) → (Nat → Int32) → (Nat → Nat → Int32) → (Nat → Nat) → (Nat → Int32) → (Nat → Nat → Int32) → (Nat → Int32) → (Nat → Int32) → Int32 → (Nat → Int32) → Int64 → Prop) (hJ : ∀ (x3 : Int32) (a_errors : Nat → Int32) (a0 : Nat → Nat) (n0 : Nat → Int32) (r0 : Nat → Nat → Int32) (n_saved : Int32) (a1 : Nat → Nat) (n1 : Nat → Int32) (r1 : Nat → Nat → Int32) (a2 : Nat → Nat) (n2 : Nat → Int32) (r2 : Nat → Nat → Int32) (a3 : Nat → Nat) (n3 : Nat → Int32) (r3 : Nat → Nat → Int32) (a_now_m : Nat → Int32) (a_past_m : Nat → Int32) (n_saved_m : Int32) (a_errors_m : Nat → Int32) (n_hash_m : Int64), J x3 a_errors a0 n0 r0 n_saved a1 n1 r1 a2 n2 r2 a3 n3 r3 a_now_m a_past_m n_saved_m a_errors_m n_hash_m → V p l e room_1 s m #[.ref b] below meth c E A 4 76 3239 (lw_Z below #[.ref b] s) 18 [(0, .ref b), (1, .ref h0), (2, .ref m0), (3, .int x3)] [] (LW E h0 hh he ha m0 m1 m2 m3 a_errors a0 n0 r0 n_saved a1 n1 r1 a2 n2 r2 a3 n3 r3 a_now_m a_past_m n_saved_m a_errors_m n_hash_m)) (x3 : Int32) (a_errors : Nat → Int32) (a0 : Nat → Nat) (n0 : Nat → Int32) (r0 : Nat → Nat → Int32) (n_saved : Int32) (a1 : Nat → Nat) (n1 : Nat → Int32) (r1 : Nat → Nat → Int32) (a2 : Nat → Nat) (n2 : Nat → Int32) (r2 : Nat → Nat → Int32) (a3 : Nat → Nat) (n3 : Nat → Int32) (r3 : Nat → Nat → Int32) (a_now_m : Nat → Int32) (a_past_m : Nat → Int32) (n_saved_m : Int32) (a_errors_m : Nat → Int32) (n_hash_m : Int64) (hw : wc_294 L xs J x3 a_errors a0 n0 r0 n_saved a1 n1 r1 a2 n2 r2 a3 n3 r3 a_now_m a_past_m n_saved_m a_errors_m n_hash_m) : V p l e room_1 s m #[.ref b] below meth c E A 4 76 3239 (lw_Z below #[.ref b] s) 294 [(0, .ref b), (1, .ref h0), (2, .ref m0), (3, .int x3)] [] (LW E h0 hh he ha m0 m1 m2 m3 a_errors a0 n0 r0 n_saved a1 n1 r1 a2 n2 r2 a3 n3 r3 a_now_m a_past_m n_saved_m a_errors_m n_hash_m) := by
  rw [wc_294] at hw
  refine V_aload_n hC 1 rfl rfl dL_law_294 ?_
  refine V_aload_n hC 0 rfl rfl dL_law_295 ?_
  refine V_iload_n hC 3 rfl rfl dL_law_296 ?_
  refine V_iconst hC 1 dL_law_297 (by decide) ?_
  refine V_iadd hC dL_law_298 ?_
  refine V_sld hC hX hw.1 dL_law_299 ?_
  have hw := hw.2
  refine V_aload_n hC 0 rfl rfl dL_law_300 ?_
  refine V_iload_n hC 3 rfl rfl dL_law_301 ?_
  refine V_iconst hC 2 dL_law_302 (by decide) ?_
  refine V_iadd hC dL_law_303 ?_
  refine V_sld hC hX hw.1 dL_law_304 ?_
  have hw := hw.2
  refine V_callP hC ((LW E h0 hh he ha m0 m1 m2 m3 a_errors a0 n0 r0 n_saved a1 n1 r1 a2 n2 r2 a3 n3 r3 a_now_m a_past_m n_saved_m a_errors_m n_hash_m).drop 72) 2 [.int (xs (Int32.toNatClampNeg (x3 + 1))), .int (xs (Int32.toNatClampNeg (x3 + 2)))] [] (ct_X8_close l E h0 hh he a0 ha a_errors n0 r0 n_saved a1 n1 r1 a2 n2 r2 a3 n3 r3 (xs (Int32.toNatClampNeg (x3 + 1))) (xs (Int32.toNatClampNeg (x3 + 2))) _ hw) wd_430 wd_32 wd_427 wd_428 wd_429 (by decide +kernel) rfl ⟨Nat.le_of_ble_eq_true rfl, Nat.le_of_ble_eq_true rfl⟩ rfl rfl rfl rfl (Nat.le_of_ble_eq_true rfl) ⟨Nat.le_of_ble_eq_true rfl, Nat.le_of_ble_eq_true rfl⟩ dL_law_305 (fun v ws' hp => ?_)
  obtain ⟨v1, g2, g3, g4, s5, g6, g7, g8, g9, g10, g11, g12, g13, g14, rfl, rfl, hw⟩ := hp
  refine V_wst [.int v1] (LW E h0 hh he ha m0 m1 m2 m3 g2 a0 g3 g4 s5 g6 g7 g8 g9 g10 g11 g12 g13 g14 a_now_m a_past_m n_saved_m a_errors_m n_hash_m) rfl rfl ?_
  refine V_aload_n hC 2 rfl rfl dL_law_308 ?_
  refine V_aload_n hC 0 rfl rfl dL_law_309 ?_
  refine V_iload_n hC 3 rfl rfl dL_law_310 ?_
  refine V_iconst hC 1 dL_law_311 (by decide) ?_
  refine V_iadd hC dL_law_312 ?_
  refine V_sld hC hX hw.1 dL_law_313 ?_
  have hw := hw.2
  refine V_aload_n hC 0 rfl rfl dL_law_314 ?_
  refine V_iload_n hC 3 rfl rfl dL_law_315 ?_
  refine V_iconst hC 2 dL_law_316 (by decide) ?_
  refine V_iadd hC dL_law_317 ?_
  refine V_sld hC hX hw.1 dL_law_318 ?_
  have hw := hw.2
  refine V_callQ hC ((LW E h0 hh he ha m0 m1 m2 m3 g2 a0 g3 g4 s5 g6 g7 g8 g9 g10 g11 g12 g13 g14 a_now_m a_past_m n_saved_m a_errors_m n_hash_m).take 72) 2 [.int (xs (Int32.toNatClampNeg (x3 + 1))), .int (xs (Int32.toNatClampNeg (x3 + 2)))] [.int v1] (ct_X9_close l E m0 m1 m2 m3 a_now_m a_past_m n_saved_m a_errors_m n_hash_m (xs (Int32.toNatClampNeg (x3 + 1))) (xs (Int32.toNatClampNeg (x3 + 2))) _ hw) wd_747 wd_40 wd_744 wd_745 wd_746 (by decide +kernel) rfl ⟨Nat.le_of_ble_eq_true rfl, Nat.le_of_ble_eq_true rfl⟩ rfl rfl rfl rfl (Nat.le_of_ble_eq_true rfl) ⟨Nat.le_of_ble_eq_true rfl, Nat.le_of_ble_eq_true rfl⟩ dL_law_319 (fun v ws' hp => ?_)
  obtain ⟨v15, g16, g17, s18, g19, rfl, rfl, hw⟩ := hp
  refine V_wst [.int v15, .int v1] (LW E h0 hh he ha m0 m1 m2 m3 g2 a0 g3 g4 s5 g6 g7 g8 g9 g10 g11 g12 g13 g14 g16 g17 s18 g19 n_hash_m) rfl rfl ?_
  refine V_icmp_eq hC 771 (by decide) dL_law_322 (fun c20 => ?_) (fun c20 => ?_)
  · have hw := hw.1 c20
    refine V_iinc hC (x3 + 5) 3 [(3, .int (x3 + 5)), (0, .ref b), (1, .ref h0), (2, .ref m0)] rfl (congrArg (fun z => x3 + z) (by decide : Int32.ofInt (5) = (5 : Int32))) (by decide) rfl dL_law_771 ?_
    refine V_goto hC 18 (by decide) dL_law_774 ?_
    refine V_lv [(0, .ref b), (1, .ref h0), (2, .ref m0), (3, .int (x3 + 5))] [1, 2, 3, 0] rfl ?_
    exact hJ (x3 + 5) g2 a0 g3 g4 s5 g6 g7 g8 g9 g10 g11 g12 g13 g14 g16 g17 s18 g19 n_hash_m hw
  · have hw := hw.2 c20
    refine V_iconst hC 0 dL_law_325 (by decide) ?_
    exact hw.elim
def wc_327 (L : Nat) (xs : Nat → Int32) (J : Int32 → (Nat → Int32) → (Nat → Nat) → (Nat → Int32) → (Nat → Nat → Int32) → Int32 → (Nat → Nat) → (Nat → Int32) → (Nat → Nat → Int32) → (Nat → Nat) → (Nat → Int32) → (Nat → Nat → Int32) → (Nat → Nat) → (Nat → Int32) → (Nat → Nat → Int32) → (Nat → Int32) → (Nat → Int32) → Int32 → (Nat → Int32) → Int64 → Prop) (x3 : Int32) (a_errors : Nat → Int32) (a0 : Nat → Nat) (n0 : Nat → Int32) (r0 : Nat → Nat → Int32) (n_saved : Int32) (a1 : Nat → Nat) (n1 : Nat → Int32) (r1 : Nat → Nat → Int32) (a2 : Nat → Nat) (n2 : Nat → Int32) (r2 : Nat → Nat → Int32) (a3 : Nat → Nat) (n3 : Nat → Int32) (r3 : Nat → Nat → Int32) (a_now_m : Nat → Int32) (a_past_m : Nat → Int32) (n_saved_m : Int32) (a_errors_m : Nat → Int32) (n_hash_m : Int64) : Prop := (vp_in (x3 + 1) L ∧ (vp_in (x3 + 2) L ∧ (wp_X8_segmentSize a_errors n0 r0 (xs (Int32.toNatClampNeg (x3 + 1))) (xs (Int32.toNatClampNeg (x3 + 2))) (fun (v1 : Int32) (g2 : Nat → Int32) => (vp_in (x3 + 1) L ∧ (vp_in (x3 + 2) L ∧ (wp_X9_segmentSize a_now_m a_past_m n_saved_m a_errors_m n_hash_m (xs (Int32.toNatClampNeg (x3 + 1))) (xs (Int32.toNatClampNeg (x3 + 2))) (fun (v3 : Int32) (g4 : Nat → Int32) => ((v1 = v3 → J (x3 + 5) g2 a0 n0 r0 n_saved a1 n1 r1 a2 n2 r2 a3 n3 r3 a_now_m a_past_m n_saved_m g4 n_hash_m) ∧ (¬ (v1 = v3) → False))))))))))
set_option maxRecDepth 100000 in
set_option maxHeartbeats 4000000 in
theorem bc_327 {p : Program} {l : Launch} {e : Env} {s : State} {m : MethodId} {below : List Frame} {meth : Method} {c : Code} {E : EN} {A : Nat → Prop} {b L : Nat} {xs : Nat → Int32} (hC : Cx p s m #[.ref b] meth c E A cL_law 4 "CookieServerLaw") (hr : meth.sig.returnType = ret) (hX : va_X b L xs s s.heap ∧ b < s.heap.size ∧ ¬ A b) (hA9 : ∀ q, A q → s.heap.size ≤ q) (h0 : Nat) (hh : Nat) (he : Nat) (ha : Nat) (m0 : Nat) (m1 : Nat) (m2 : Nat) (m3 : Nat) (J : Int32 → (Nat → Int32) → (Nat → Nat) → (Nat → Int32) → (Nat → Nat → Int32) → Int32 → (Nat → Nat) → (Nat → Int32) → (Nat → Nat → Int32) → (Nat → Nat) → (Nat → Int32) → (Nat → Nat → Int32) → (Nat → Nat) → (Nat → Int32) → (Nat → Nat → Int32) → (Nat → Int32) → (Nat → Int32) → Int32 → (Nat → Int32) → Int64 → Prop) (hJ : ∀ (x3 : Int32) (a_errors : Nat → Int32) (a0 : Nat → Nat) (n0 : Nat → Int32) (r0 : Nat → Nat → Int32) (n_saved : Int32) (a1 : Nat → Nat) (n1 : Nat → Int32) (r1 : Nat → Nat → Int32) (a2 : Nat → Nat) (n2 : Nat → Int32) (r2 : Nat → Nat → Int32) (a3 : Nat → Nat) (n3 : Nat → Int32) (r3 : Nat → Nat → Int32) (a_now_m : Nat → Int32) (a_past_m : Nat → Int32) (n_saved_m : Int32) (a_errors_m : Nat → Int32) (n_hash_m : Int64), J x3 a_errors a0 n0 r0 n_saved a1 n1 r1 a2 n2 r2 a3 n3 r3 a_now_m a_past_m n_saved_m a_errors_m n_hash_m → V p l e room_1 s m #[.ref b] below meth c E A 4 76 3239 (lw_Z below #[.ref b] s) 18 [(0, .ref b), (1, .ref h0), (2, .ref m0), (3, .int x3)] [] (LW E h0 hh he ha m0 m1 m2 m3 a_errors a0 n0 r0 n_saved a1 n1 r1 a2 n2 r2 a3 n3 r3 a_now_m a_past_m n_saved_m a_errors_m n_hash_m)) (x3 : Int32) (a_errors : Nat → Int32) (a0 : Nat → Nat) (n0 : Nat → Int32) (r0 : Nat → Nat → Int32) (n_saved : Int32) (a1 : Nat → Nat) (n1 : Nat → Int32) (r1 : Nat → Nat → Int32) (a2 : Nat → Nat) (n2 : Nat → Int32) (r2 : Nat → Nat → Int32) (a3 : Nat → Nat) (n3 : Nat → Int32) (r3 : Nat → Nat → Int32) (a_now_m : Nat → Int32) (a_past_m : Nat → Int32) (n_saved_m : Int32) (a_errors_m : Nat → Int32) (n_hash_m : Int64) (hw : wc_327 L xs J x3 a_errors a0 n0 r0 n_saved a1 n1 r1 a2 n2 r2 a3 n3 r3 a_now_m a_past_m n_saved_m a_errors_m n_hash_m) : V p l e room_1 s m #[.ref b] below meth c E A 4 76 3239 (lw_Z below #[.ref b] s) 327 [(0, .ref b), (1, .ref h0), (2, .ref m0), (3, .int x3)] [] (LW E h0 hh he ha m0 m1 m2 m3 a_errors a0 n0 r0 n_saved a1 n1 r1 a2 n2 r2 a3 n3 r3 a_now_m a_past_m n_saved_m a_errors_m n_hash_m) := by
  rw [wc_327] at hw
  refine V_aload_n hC 1 rfl rfl dL_law_327 ?_
  refine V_aload_n hC 0 rfl rfl dL_law_328 ?_
  refine V_iload_n hC 3 rfl rfl dL_law_329 ?_
  refine V_iconst hC 1 dL_law_330 (by decide) ?_
  refine V_iadd hC dL_law_331 ?_
  refine V_sld hC hX hw.1 dL_law_332 ?_
  have hw := hw.2
  refine V_aload_n hC 0 rfl rfl dL_law_333 ?_
  refine V_iload_n hC 3 rfl rfl dL_law_334 ?_
  refine V_iconst hC 2 dL_law_335 (by decide) ?_
  refine V_iadd hC dL_law_336 ?_
  refine V_sld hC hX hw.1 dL_law_337 ?_
  have hw := hw.2
  refine V_callP hC ((LW E h0 hh he ha m0 m1 m2 m3 a_errors a0 n0 r0 n_saved a1 n1 r1 a2 n2 r2 a3 n3 r3 a_now_m a_past_m n_saved_m a_errors_m n_hash_m).drop 19) 2 [.int (xs (Int32.toNatClampNeg (x3 + 1))), .int (xs (Int32.toNatClampNeg (x3 + 2)))] [] (ct_X8_segmentSize l E h0 hh he a0 a_errors n0 r0 (xs (Int32.toNatClampNeg (x3 + 1))) (xs (Int32.toNatClampNeg (x3 + 2))) _ hw) wd_448 wd_32 wd_445 wd_446 wd_447 (by decide +kernel) rfl ⟨Nat.le_of_ble_eq_true rfl, Nat.le_of_ble_eq_true rfl⟩ rfl rfl rfl rfl (Nat.le_of_ble_eq_true rfl) ⟨Nat.le_of_ble_eq_true rfl, Nat.le_of_ble_eq_true rfl⟩ dL_law_338 (fun v ws' hp => ?_)
  obtain ⟨v1, g2, rfl, rfl, hw⟩ := hp
  refine V_wst [.int v1] (LW E h0 hh he ha m0 m1 m2 m3 g2 a0 n0 r0 n_saved a1 n1 r1 a2 n2 r2 a3 n3 r3 a_now_m a_past_m n_saved_m a_errors_m n_hash_m) rfl rfl ?_
  refine V_aload_n hC 2 rfl rfl dL_law_341 ?_
  refine V_aload_n hC 0 rfl rfl dL_law_342 ?_
  refine V_iload_n hC 3 rfl rfl dL_law_343 ?_
  refine V_iconst hC 1 dL_law_344 (by decide) ?_
  refine V_iadd hC dL_law_345 ?_
  refine V_sld hC hX hw.1 dL_law_346 ?_
  have hw := hw.2
  refine V_aload_n hC 0 rfl rfl dL_law_347 ?_
  refine V_iload_n hC 3 rfl rfl dL_law_348 ?_
  refine V_iconst hC 2 dL_law_349 (by decide) ?_
  refine V_iadd hC dL_law_350 ?_
  refine V_sld hC hX hw.1 dL_law_351 ?_
  have hw := hw.2
  refine V_callQ hC ((LW E h0 hh he ha m0 m1 m2 m3 g2 a0 n0 r0 n_saved a1 n1 r1 a2 n2 r2 a3 n3 r3 a_now_m a_past_m n_saved_m a_errors_m n_hash_m).take 72) 2 [.int (xs (Int32.toNatClampNeg (x3 + 1))), .int (xs (Int32.toNatClampNeg (x3 + 2)))] [.int v1] (ct_X9_segmentSize l E m0 m1 m2 m3 a_now_m a_past_m n_saved_m a_errors_m n_hash_m (xs (Int32.toNatClampNeg (x3 + 1))) (xs (Int32.toNatClampNeg (x3 + 2))) _ hw) wd_751 wd_40 wd_748 wd_749 wd_750 (by decide +kernel) rfl ⟨Nat.le_of_ble_eq_true rfl, Nat.le_of_ble_eq_true rfl⟩ rfl rfl rfl rfl (Nat.le_of_ble_eq_true rfl) ⟨Nat.le_of_ble_eq_true rfl, Nat.le_of_ble_eq_true rfl⟩ dL_law_352 (fun v ws' hp => ?_)
  obtain ⟨v3, g4, rfl, rfl, hw⟩ := hp
  refine V_wst [.int v3, .int v1] (LW E h0 hh he ha m0 m1 m2 m3 g2 a0 n0 r0 n_saved a1 n1 r1 a2 n2 r2 a3 n3 r3 a_now_m a_past_m n_saved_m g4 n_hash_m) rfl rfl ?_
  refine V_icmp_eq hC 771 (by decide) dL_law_355 (fun c5 => ?_) (fun c5 => ?_)
  · have hw := hw.1 c5
    refine V_iinc hC (x3 + 5) 3 [(3, .int (x3 + 5)), (0, .ref b), (1, .ref h0), (2, .ref m0)] rfl (congrArg (fun z => x3 + z) (by decide : Int32.ofInt (5) = (5 : Int32))) (by decide) rfl dL_law_771 ?_
    refine V_goto hC 18 (by decide) dL_law_774 ?_
    refine V_lv [(0, .ref b), (1, .ref h0), (2, .ref m0), (3, .int (x3 + 5))] [1, 2, 3, 0] rfl ?_
    exact hJ (x3 + 5) g2 a0 n0 r0 n_saved a1 n1 r1 a2 n2 r2 a3 n3 r3 a_now_m a_past_m n_saved_m g4 n_hash_m hw
  · have hw := hw.2 c5
    refine V_iconst hC 0 dL_law_358 (by decide) ?_
    exact hw.elim
def wc_360 (L : Nat) (xs : Nat → Int32) (J : Int32 → (Nat → Int32) → (Nat → Nat) → (Nat → Int32) → (Nat → Nat → Int32) → Int32 → (Nat → Nat) → (Nat → Int32) → (Nat → Nat → Int32) → (Nat → Nat) → (Nat → Int32) → (Nat → Nat → Int32) → (Nat → Nat) → (Nat → Int32) → (Nat → Nat → Int32) → (Nat → Int32) → (Nat → Int32) → Int32 → (Nat → Int32) → Int64 → Prop) (x3 : Int32) (a_errors : Nat → Int32) (a0 : Nat → Nat) (n0 : Nat → Int32) (r0 : Nat → Nat → Int32) (n_saved : Int32) (a1 : Nat → Nat) (n1 : Nat → Int32) (r1 : Nat → Nat → Int32) (a2 : Nat → Nat) (n2 : Nat → Int32) (r2 : Nat → Nat → Int32) (a3 : Nat → Nat) (n3 : Nat → Int32) (r3 : Nat → Nat → Int32) (a_now_m : Nat → Int32) (a_past_m : Nat → Int32) (n_saved_m : Int32) (a_errors_m : Nat → Int32) (n_hash_m : Int64) : Prop := (wp_X8_connections a_errors n0 r0 (fun (v1 : Int32) => (wp_X9_connections a_now_m a_past_m n_saved_m a_errors_m n_hash_m (fun (v2 : Int32) => ((v1 = v2 → J (x3 + 5) a_errors a0 n0 r0 n_saved a1 n1 r1 a2 n2 r2 a3 n3 r3 a_now_m a_past_m n_saved_m a_errors_m n_hash_m) ∧ (¬ (v1 = v2) → False))))))
set_option maxRecDepth 100000 in
set_option maxHeartbeats 4000000 in
theorem bc_360 {p : Program} {l : Launch} {e : Env} {s : State} {m : MethodId} {below : List Frame} {meth : Method} {c : Code} {E : EN} {A : Nat → Prop} {b L : Nat} {xs : Nat → Int32} (hC : Cx p s m #[.ref b] meth c E A cL_law 4 "CookieServerLaw") (hr : meth.sig.returnType = ret) (hX : va_X b L xs s s.heap ∧ b < s.heap.size ∧ ¬ A b) (hA9 : ∀ q, A q → s.heap.size ≤ q) (h0 : Nat) (hh : Nat) (he : Nat) (ha : Nat) (m0 : Nat) (m1 : Nat) (m2 : Nat) (m3 : Nat) (J : Int32 → (Nat → Int32) → (Nat → Nat) → (Nat → Int32) → (Nat → Nat → Int32) → Int32 → (Nat → Nat) → (Nat → Int32) → (Nat → Nat → Int32) → (Nat → Nat) → (Nat → Int32) → (Nat → Nat → Int32) → (Nat → Nat) → (Nat → Int32) → (Nat → Nat → Int32) → (Nat → Int32) → (Nat → Int32) → Int32 → (Nat → Int32) → Int64 → Prop) (hJ : ∀ (x3 : Int32) (a_errors : Nat → Int32) (a0 : Nat → Nat) (n0 : Nat → Int32) (r0 : Nat → Nat → Int32) (n_saved : Int32) (a1 : Nat → Nat) (n1 : Nat → Int32) (r1 : Nat → Nat → Int32) (a2 : Nat → Nat) (n2 : Nat → Int32) (r2 : Nat → Nat → Int32) (a3 : Nat → Nat) (n3 : Nat → Int32) (r3 : Nat → Nat → Int32) (a_now_m : Nat → Int32) (a_past_m : Nat → Int32) (n_saved_m : Int32) (a_errors_m : Nat → Int32) (n_hash_m : Int64), J x3 a_errors a0 n0 r0 n_saved a1 n1 r1 a2 n2 r2 a3 n3 r3 a_now_m a_past_m n_saved_m a_errors_m n_hash_m → V p l e room_1 s m #[.ref b] below meth c E A 4 76 3239 (lw_Z below #[.ref b] s) 18 [(0, .ref b), (1, .ref h0), (2, .ref m0), (3, .int x3)] [] (LW E h0 hh he ha m0 m1 m2 m3 a_errors a0 n0 r0 n_saved a1 n1 r1 a2 n2 r2 a3 n3 r3 a_now_m a_past_m n_saved_m a_errors_m n_hash_m)) (x3 : Int32) (a_errors : Nat → Int32) (a0 : Nat → Nat) (n0 : Nat → Int32) (r0 : Nat → Nat → Int32) (n_saved : Int32) (a1 : Nat → Nat) (n1 : Nat → Int32) (r1 : Nat → Nat → Int32) (a2 : Nat → Nat) (n2 : Nat → Int32) (r2 : Nat → Nat → Int32) (a3 : Nat → Nat) (n3 : Nat → Int32) (r3 : Nat → Nat → Int32) (a_now_m : Nat → Int32) (a_past_m : Nat → Int32) (n_saved_m : Int32) (a_errors_m : Nat → Int32) (n_hash_m : Int64) (hw : wc_360 L xs J x3 a_errors a0 n0 r0 n_saved a1 n1 r1 a2 n2 r2 a3 n3 r3 a_now_m a_past_m n_saved_m a_errors_m n_hash_m) : V p l e room_1 s m #[.ref b] below meth c E A 4 76 3239 (lw_Z below #[.ref b] s) 360 [(0, .ref b), (1, .ref h0), (2, .ref m0), (3, .int x3)] [] (LW E h0 hh he ha m0 m1 m2 m3 a_errors a0 n0 r0 n_saved a1 n1 r1 a2 n2 r2 a3 n3 r3 a_now_m a_past_m n_saved_m a_errors_m n_hash_m) := by
  rw [wc_360] at hw
  refine V_aload_n hC 1 rfl rfl dL_law_360 ?_
  refine V_callP hC ((LW E h0 hh he ha m0 m1 m2 m3 a_errors a0 n0 r0 n_saved a1 n1 r1 a2 n2 r2 a3 n3 r3 a_now_m a_past_m n_saved_m a_errors_m n_hash_m).drop 19) 0 [] [] (ct_X8_connections l E h0 hh he a0 a_errors n0 r0 _ hw) wd_456 wd_32 wd_453 wd_454 wd_455 (by decide +kernel) rfl ⟨Nat.le_of_ble_eq_true rfl, Nat.le_of_ble_eq_true rfl⟩ rfl rfl rfl rfl (Nat.le_of_ble_eq_true rfl) ⟨Nat.le_of_ble_eq_true rfl, Nat.le_of_ble_eq_true rfl⟩ dL_law_361 (fun v ws' hp => ?_)
  obtain ⟨v1, rfl, rfl, hw⟩ := hp
  refine V_wst [.int v1] (LW E h0 hh he ha m0 m1 m2 m3 a_errors a0 n0 r0 n_saved a1 n1 r1 a2 n2 r2 a3 n3 r3 a_now_m a_past_m n_saved_m a_errors_m n_hash_m) rfl rfl ?_
  refine V_aload_n hC 2 rfl rfl dL_law_364 ?_
  refine V_callQ hC ((LW E h0 hh he ha m0 m1 m2 m3 a_errors a0 n0 r0 n_saved a1 n1 r1 a2 n2 r2 a3 n3 r3 a_now_m a_past_m n_saved_m a_errors_m n_hash_m).take 72) 0 [] [.int v1] (ct_X9_connections l E m0 m1 m2 m3 a_now_m a_past_m n_saved_m a_errors_m n_hash_m _ hw) wd_720 wd_40 wd_752 wd_718 wd_719 (by decide +kernel) rfl ⟨Nat.le_of_ble_eq_true rfl, Nat.le_of_ble_eq_true rfl⟩ rfl rfl rfl rfl (Nat.le_of_ble_eq_true rfl) ⟨Nat.le_of_ble_eq_true rfl, Nat.le_of_ble_eq_true rfl⟩ dL_law_365 (fun v ws' hp => ?_)
  obtain ⟨v2, rfl, rfl, hw⟩ := hp
  refine V_wst [.int v2, .int v1] (LW E h0 hh he ha m0 m1 m2 m3 a_errors a0 n0 r0 n_saved a1 n1 r1 a2 n2 r2 a3 n3 r3 a_now_m a_past_m n_saved_m a_errors_m n_hash_m) rfl rfl ?_
  refine V_icmp_eq hC 771 (by decide) dL_law_368 (fun c3 => ?_) (fun c3 => ?_)
  · have hw := hw.1 c3
    refine V_iinc hC (x3 + 5) 3 [(3, .int (x3 + 5)), (0, .ref b), (1, .ref h0), (2, .ref m0)] rfl (congrArg (fun z => x3 + z) (by decide : Int32.ofInt (5) = (5 : Int32))) (by decide) rfl dL_law_771 ?_
    refine V_goto hC 18 (by decide) dL_law_774 ?_
    refine V_lv [(0, .ref b), (1, .ref h0), (2, .ref m0), (3, .int (x3 + 5))] [1, 2, 3, 0] rfl ?_
    exact hJ (x3 + 5) a_errors a0 n0 r0 n_saved a1 n1 r1 a2 n2 r2 a3 n3 r3 a_now_m a_past_m n_saved_m a_errors_m n_hash_m hw
  · have hw := hw.2 c3
    refine V_iconst hC 0 dL_law_371 (by decide) ?_
    exact hw.elim
def wc_373 (L : Nat) (xs : Nat → Int32) (J : Int32 → (Nat → Int32) → (Nat → Nat) → (Nat → Int32) → (Nat → Nat → Int32) → Int32 → (Nat → Nat) → (Nat → Int32) → (Nat → Nat → Int32) → (Nat → Nat) → (Nat → Int32) → (Nat → Nat → Int32) → (Nat → Nat) → (Nat → Int32) → (Nat → Nat → Int32) → (Nat → Int32) → (Nat → Int32) → Int32 → (Nat → Int32) → Int64 → Prop) (x3 : Int32) (a_errors : Nat → Int32) (a0 : Nat → Nat) (n0 : Nat → Int32) (r0 : Nat → Nat → Int32) (n_saved : Int32) (a1 : Nat → Nat) (n1 : Nat → Int32) (r1 : Nat → Nat → Int32) (a2 : Nat → Nat) (n2 : Nat → Int32) (r2 : Nat → Nat → Int32) (a3 : Nat → Nat) (n3 : Nat → Int32) (r3 : Nat → Nat → Int32) (a_now_m : Nat → Int32) (a_past_m : Nat → Int32) (n_saved_m : Int32) (a_errors_m : Nat → Int32) (n_hash_m : Int64) : Prop := (wp_X8_halfOpen a_errors n0 r0 (fun (v1 : Int32) => (wp_X9_halfOpen a_now_m a_past_m n_saved_m a_errors_m n_hash_m (fun (v2 : Int32) => ((v1 = v2 → J (x3 + 5) a_errors a0 n0 r0 n_saved a1 n1 r1 a2 n2 r2 a3 n3 r3 a_now_m a_past_m n_saved_m a_errors_m n_hash_m) ∧ (¬ (v1 = v2) → False))))))
set_option maxRecDepth 100000 in
set_option maxHeartbeats 4000000 in
theorem bc_373 {p : Program} {l : Launch} {e : Env} {s : State} {m : MethodId} {below : List Frame} {meth : Method} {c : Code} {E : EN} {A : Nat → Prop} {b L : Nat} {xs : Nat → Int32} (hC : Cx p s m #[.ref b] meth c E A cL_law 4 "CookieServerLaw") (hr : meth.sig.returnType = ret) (hX : va_X b L xs s s.heap ∧ b < s.heap.size ∧ ¬ A b) (hA9 : ∀ q, A q → s.heap.size ≤ q) (h0 : Nat) (hh : Nat) (he : Nat) (ha : Nat) (m0 : Nat) (m1 : Nat) (m2 : Nat) (m3 : Nat) (J : Int32 → (Nat → Int32) → (Nat → Nat) → (Nat → Int32) → (Nat → Nat → Int32) → Int32 → (Nat → Nat) → (Nat → Int32) → (Nat → Nat → Int32) → (Nat → Nat) → (Nat → Int32) → (Nat → Nat → Int32) → (Nat → Nat) → (Nat → Int32) → (Nat → Nat → Int32) → (Nat → Int32) → (Nat → Int32) → Int32 → (Nat → Int32) → Int64 → Prop) (hJ : ∀ (x3 : Int32) (a_errors : Nat → Int32) (a0 : Nat → Nat) (n0 : Nat → Int32) (r0 : Nat → Nat → Int32) (n_saved : Int32) (a1 : Nat → Nat) (n1 : Nat → Int32) (r1 : Nat → Nat → Int32) (a2 : Nat → Nat) (n2 : Nat → Int32) (r2 : Nat → Nat → Int32) (a3 : Nat → Nat) (n3 : Nat → Int32) (r3 : Nat → Nat → Int32) (a_now_m : Nat → Int32) (a_past_m : Nat → Int32) (n_saved_m : Int32) (a_errors_m : Nat → Int32) (n_hash_m : Int64), J x3 a_errors a0 n0 r0 n_saved a1 n1 r1 a2 n2 r2 a3 n3 r3 a_now_m a_past_m n_saved_m a_errors_m n_hash_m → V p l e room_1 s m #[.ref b] below meth c E A 4 76 3239 (lw_Z below #[.ref b] s) 18 [(0, .ref b), (1, .ref h0), (2, .ref m0), (3, .int x3)] [] (LW E h0 hh he ha m0 m1 m2 m3 a_errors a0 n0 r0 n_saved a1 n1 r1 a2 n2 r2 a3 n3 r3 a_now_m a_past_m n_saved_m a_errors_m n_hash_m)) (x3 : Int32) (a_errors : Nat → Int32) (a0 : Nat → Nat) (n0 : Nat → Int32) (r0 : Nat → Nat → Int32) (n_saved : Int32) (a1 : Nat → Nat) (n1 : Nat → Int32) (r1 : Nat → Nat → Int32) (a2 : Nat → Nat) (n2 : Nat → Int32) (r2 : Nat → Nat → Int32) (a3 : Nat → Nat) (n3 : Nat → Int32) (r3 : Nat → Nat → Int32) (a_now_m : Nat → Int32) (a_past_m : Nat → Int32) (n_saved_m : Int32) (a_errors_m : Nat → Int32) (n_hash_m : Int64) (hw : wc_373 L xs J x3 a_errors a0 n0 r0 n_saved a1 n1 r1 a2 n2 r2 a3 n3 r3 a_now_m a_past_m n_saved_m a_errors_m n_hash_m) : V p l e room_1 s m #[.ref b] below meth c E A 4 76 3239 (lw_Z below #[.ref b] s) 373 [(0, .ref b), (1, .ref h0), (2, .ref m0), (3, .int x3)] [] (LW E h0 hh he ha m0 m1 m2 m3 a_errors a0 n0 r0 n_saved a1 n1 r1 a2 n2 r2 a3 n3 r3 a_now_m a_past_m n_saved_m a_errors_m n_hash_m) := by
  rw [wc_373] at hw
  refine V_aload_n hC 1 rfl rfl dL_law_373 ?_
  refine V_callP hC ((LW E h0 hh he ha m0 m1 m2 m3 a_errors a0 n0 r0 n_saved a1 n1 r1 a2 n2 r2 a3 n3 r3 a_now_m a_past_m n_saved_m a_errors_m n_hash_m).drop 19) 0 [] [] (ct_X8_halfOpen l E h0 hh he a0 a_errors n0 r0 _ hw) wd_460 wd_32 wd_457 wd_458 wd_459 (by decide +kernel) rfl ⟨Nat.le_of_ble_eq_true rfl, Nat.le_of_ble_eq_true rfl⟩ rfl rfl rfl rfl (Nat.le_of_ble_eq_true rfl) ⟨Nat.le_of_ble_eq_true rfl, Nat.le_of_ble_eq_true rfl⟩ dL_law_374 (fun v ws' hp => ?_)
  obtain ⟨v1, rfl, rfl, hw⟩ := hp
  refine V_wst [.int v1] (LW E h0 hh he ha m0 m1 m2 m3 a_errors a0 n0 r0 n_saved a1 n1 r1 a2 n2 r2 a3 n3 r3 a_now_m a_past_m n_saved_m a_errors_m n_hash_m) rfl rfl ?_
  refine V_aload_n hC 2 rfl rfl dL_law_377 ?_
  refine V_callQ hC ((LW E h0 hh he ha m0 m1 m2 m3 a_errors a0 n0 r0 n_saved a1 n1 r1 a2 n2 r2 a3 n3 r3 a_now_m a_past_m n_saved_m a_errors_m n_hash_m).take 72) 0 [] [.int v1] (ct_X9_halfOpen l E m0 m1 m2 m3 a_now_m a_past_m n_saved_m a_errors_m n_hash_m _ hw) wd_756 wd_40 wd_753 wd_754 wd_755 (by decide +kernel) rfl ⟨Nat.le_of_ble_eq_true rfl, Nat.le_of_ble_eq_true rfl⟩ rfl rfl rfl rfl (Nat.le_of_ble_eq_true rfl) ⟨Nat.le_of_ble_eq_true rfl, Nat.le_of_ble_eq_true rfl⟩ dL_law_378 (fun v ws' hp => ?_)
  obtain ⟨v2, rfl, rfl, hw⟩ := hp
  refine V_wst [.int v2, .int v1] (LW E h0 hh he ha m0 m1 m2 m3 a_errors a0 n0 r0 n_saved a1 n1 r1 a2 n2 r2 a3 n3 r3 a_now_m a_past_m n_saved_m a_errors_m n_hash_m) rfl rfl ?_
  refine V_icmp_eq hC 771 (by decide) dL_law_381 (fun c3 => ?_) (fun c3 => ?_)
  · have hw := hw.1 c3
    refine V_iinc hC (x3 + 5) 3 [(3, .int (x3 + 5)), (0, .ref b), (1, .ref h0), (2, .ref m0)] rfl (congrArg (fun z => x3 + z) (by decide : Int32.ofInt (5) = (5 : Int32))) (by decide) rfl dL_law_771 ?_
    refine V_goto hC 18 (by decide) dL_law_774 ?_
    refine V_lv [(0, .ref b), (1, .ref h0), (2, .ref m0), (3, .int (x3 + 5))] [1, 2, 3, 0] rfl ?_
    exact hJ (x3 + 5) a_errors a0 n0 r0 n_saved a1 n1 r1 a2 n2 r2 a3 n3 r3 a_now_m a_past_m n_saved_m a_errors_m n_hash_m hw
  · have hw := hw.2 c3
    refine V_iconst hC 0 dL_law_384 (by decide) ?_
    exact hw.elim
def wc_386 (L : Nat) (xs : Nat → Int32) (J : Int32 → (Nat → Int32) → (Nat → Nat) → (Nat → Int32) → (Nat → Nat → Int32) → Int32 → (Nat → Nat) → (Nat → Int32) → (Nat → Nat → Int32) → (Nat → Nat) → (Nat → Int32) → (Nat → Nat → Int32) → (Nat → Nat) → (Nat → Int32) → (Nat → Nat → Int32) → (Nat → Int32) → (Nat → Int32) → Int32 → (Nat → Int32) → Int64 → Prop) (x3 : Int32) (a_errors : Nat → Int32) (a0 : Nat → Nat) (n0 : Nat → Int32) (r0 : Nat → Nat → Int32) (n_saved : Int32) (a1 : Nat → Nat) (n1 : Nat → Int32) (r1 : Nat → Nat → Int32) (a2 : Nat → Nat) (n2 : Nat → Int32) (r2 : Nat → Nat → Int32) (a3 : Nat → Nat) (n3 : Nat → Int32) (r3 : Nat → Nat → Int32) (a_now_m : Nat → Int32) (a_past_m : Nat → Int32) (n_saved_m : Int32) (a_errors_m : Nat → Int32) (n_hash_m : Int64) : Prop := (vp_in (x3 + 1) L ∧ (vp_in (x3 + 2) L ∧ (wp_X8_entryAge a_errors n0 r0 (xs (Int32.toNatClampNeg (x3 + 1))) (xs (Int32.toNatClampNeg (x3 + 2))) (fun (v1 : Int32) (g2 : Nat → Int32) => (vp_in (x3 + 1) L ∧ (vp_in (x3 + 2) L ∧ (wp_X9_entryAge a_now_m a_past_m n_saved_m a_errors_m n_hash_m (xs (Int32.toNatClampNeg (x3 + 1))) (xs (Int32.toNatClampNeg (x3 + 2))) (fun (v3 : Int32) (g4 : Nat → Int32) => ((v1 = v3 → J (x3 + 5) g2 a0 n0 r0 n_saved a1 n1 r1 a2 n2 r2 a3 n3 r3 a_now_m a_past_m n_saved_m g4 n_hash_m) ∧ (¬ (v1 = v3) → False))))))))))
set_option maxRecDepth 100000 in
set_option maxHeartbeats 4000000 in
theorem bc_386 {p : Program} {l : Launch} {e : Env} {s : State} {m : MethodId} {below : List Frame} {meth : Method} {c : Code} {E : EN} {A : Nat → Prop} {b L : Nat} {xs : Nat → Int32} (hC : Cx p s m #[.ref b] meth c E A cL_law 4 "CookieServerLaw") (hr : meth.sig.returnType = ret) (hX : va_X b L xs s s.heap ∧ b < s.heap.size ∧ ¬ A b) (hA9 : ∀ q, A q → s.heap.size ≤ q) (h0 : Nat) (hh : Nat) (he : Nat) (ha : Nat) (m0 : Nat) (m1 : Nat) (m2 : Nat) (m3 : Nat) (J : Int32 → (Nat → Int32) → (Nat → Nat) → (Nat → Int32) → (Nat → Nat → Int32) → Int32 → (Nat → Nat) → (Nat → Int32) → (Nat → Nat → Int32) → (Nat → Nat) → (Nat → Int32) → (Nat → Nat → Int32) → (Nat → Nat) → (Nat → Int32) → (Nat → Nat → Int32) → (Nat → Int32) → (Nat → Int32) → Int32 → (Nat → Int32) → Int64 → Prop) (hJ : ∀ (x3 : Int32) (a_errors : Nat → Int32) (a0 : Nat → Nat) (n0 : Nat → Int32) (r0 : Nat → Nat → Int32) (n_saved : Int32) (a1 : Nat → Nat) (n1 : Nat → Int32) (r1 : Nat → Nat → Int32) (a2 : Nat → Nat) (n2 : Nat → Int32) (r2 : Nat → Nat → Int32) (a3 : Nat → Nat) (n3 : Nat → Int32) (r3 : Nat → Nat → Int32) (a_now_m : Nat → Int32) (a_past_m : Nat → Int32) (n_saved_m : Int32) (a_errors_m : Nat → Int32) (n_hash_m : Int64), J x3 a_errors a0 n0 r0 n_saved a1 n1 r1 a2 n2 r2 a3 n3 r3 a_now_m a_past_m n_saved_m a_errors_m n_hash_m → V p l e room_1 s m #[.ref b] below meth c E A 4 76 3239 (lw_Z below #[.ref b] s) 18 [(0, .ref b), (1, .ref h0), (2, .ref m0), (3, .int x3)] [] (LW E h0 hh he ha m0 m1 m2 m3 a_errors a0 n0 r0 n_saved a1 n1 r1 a2 n2 r2 a3 n3 r3 a_now_m a_past_m n_saved_m a_errors_m n_hash_m)) (x3 : Int32) (a_errors : Nat → Int32) (a0 : Nat → Nat) (n0 : Nat → Int32) (r0 : Nat → Nat → Int32) (n_saved : Int32) (a1 : Nat → Nat) (n1 : Nat → Int32) (r1 : Nat → Nat → Int32) (a2 : Nat → Nat) (n2 : Nat → Int32) (r2 : Nat → Nat → Int32) (a3 : Nat → Nat) (n3 : Nat → Int32) (r3 : Nat → Nat → Int32) (a_now_m : Nat → Int32) (a_past_m : Nat → Int32) (n_saved_m : Int32) (a_errors_m : Nat → Int32) (n_hash_m : Int64) (hw : wc_386 L xs J x3 a_errors a0 n0 r0 n_saved a1 n1 r1 a2 n2 r2 a3 n3 r3 a_now_m a_past_m n_saved_m a_errors_m n_hash_m) : V p l e room_1 s m #[.ref b] below meth c E A 4 76 3239 (lw_Z below #[.ref b] s) 386 [(0, .ref b), (1, .ref h0), (2, .ref m0), (3, .int x3)] [] (LW E h0 hh he ha m0 m1 m2 m3 a_errors a0 n0 r0 n_saved a1 n1 r1 a2 n2 r2 a3 n3 r3 a_now_m a_past_m n_saved_m a_errors_m n_hash_m) := by
  rw [wc_386] at hw
  refine V_aload_n hC 1 rfl rfl dL_law_386 ?_
  refine V_aload_n hC 0 rfl rfl dL_law_387 ?_
  refine V_iload_n hC 3 rfl rfl dL_law_388 ?_
  refine V_iconst hC 1 dL_law_389 (by decide) ?_
  refine V_iadd hC dL_law_390 ?_
  refine V_sld hC hX hw.1 dL_law_391 ?_
  have hw := hw.2
  refine V_aload_n hC 0 rfl rfl dL_law_392 ?_
  refine V_iload_n hC 3 rfl rfl dL_law_393 ?_
  refine V_iconst hC 2 dL_law_394 (by decide) ?_
  refine V_iadd hC dL_law_395 ?_
  refine V_sld hC hX hw.1 dL_law_396 ?_
  have hw := hw.2
  refine V_callP hC ((LW E h0 hh he ha m0 m1 m2 m3 a_errors a0 n0 r0 n_saved a1 n1 r1 a2 n2 r2 a3 n3 r3 a_now_m a_past_m n_saved_m a_errors_m n_hash_m).drop 19) 2 [.int (xs (Int32.toNatClampNeg (x3 + 1))), .int (xs (Int32.toNatClampNeg (x3 + 2)))] [] (ct_X8_entryAge l E h0 hh he a0 a_errors n0 r0 (xs (Int32.toNatClampNeg (x3 + 1))) (xs (Int32.toNatClampNeg (x3 + 2))) _ hw) wd_464 wd_32 wd_461 wd_462 wd_463 (by decide +kernel) rfl ⟨Nat.le_of_ble_eq_true rfl, Nat.le_of_ble_eq_true rfl⟩ rfl rfl rfl rfl (Nat.le_of_ble_eq_true rfl) ⟨Nat.le_of_ble_eq_true rfl, Nat.le_of_ble_eq_true rfl⟩ dL_law_397 (fun v ws' hp => ?_)
  obtain ⟨v1, g2, rfl, rfl, hw⟩ := hp
  refine V_wst [.int v1] (LW E h0 hh he ha m0 m1 m2 m3 g2 a0 n0 r0 n_saved a1 n1 r1 a2 n2 r2 a3 n3 r3 a_now_m a_past_m n_saved_m a_errors_m n_hash_m) rfl rfl ?_
  refine V_aload_n hC 2 rfl rfl dL_law_400 ?_
  refine V_aload_n hC 0 rfl rfl dL_law_401 ?_
  refine V_iload_n hC 3 rfl rfl dL_law_402 ?_
  refine V_iconst hC 1 dL_law_403 (by decide) ?_
  refine V_iadd hC dL_law_404 ?_
  refine V_sld hC hX hw.1 dL_law_405 ?_
  have hw := hw.2
  refine V_aload_n hC 0 rfl rfl dL_law_406 ?_
  refine V_iload_n hC 3 rfl rfl dL_law_407 ?_
  refine V_iconst hC 2 dL_law_408 (by decide) ?_
  refine V_iadd hC dL_law_409 ?_
  refine V_sld hC hX hw.1 dL_law_410 ?_
  have hw := hw.2
  refine V_callQ hC ((LW E h0 hh he ha m0 m1 m2 m3 g2 a0 n0 r0 n_saved a1 n1 r1 a2 n2 r2 a3 n3 r3 a_now_m a_past_m n_saved_m a_errors_m n_hash_m).take 72) 2 [.int (xs (Int32.toNatClampNeg (x3 + 1))), .int (xs (Int32.toNatClampNeg (x3 + 2)))] [.int v1] (ct_X9_entryAge l E m0 m1 m2 m3 a_now_m a_past_m n_saved_m a_errors_m n_hash_m (xs (Int32.toNatClampNeg (x3 + 1))) (xs (Int32.toNatClampNeg (x3 + 2))) _ hw) wd_760 wd_40 wd_757 wd_758 wd_759 (by decide +kernel) rfl ⟨Nat.le_of_ble_eq_true rfl, Nat.le_of_ble_eq_true rfl⟩ rfl rfl rfl rfl (Nat.le_of_ble_eq_true rfl) ⟨Nat.le_of_ble_eq_true rfl, Nat.le_of_ble_eq_true rfl⟩ dL_law_411 (fun v ws' hp => ?_)
  obtain ⟨v3, g4, rfl, rfl, hw⟩ := hp
  refine V_wst [.int v3, .int v1] (LW E h0 hh he ha m0 m1 m2 m3 g2 a0 n0 r0 n_saved a1 n1 r1 a2 n2 r2 a3 n3 r3 a_now_m a_past_m n_saved_m g4 n_hash_m) rfl rfl ?_
  refine V_icmp_eq hC 771 (by decide) dL_law_414 (fun c5 => ?_) (fun c5 => ?_)
  · have hw := hw.1 c5
    refine V_iinc hC (x3 + 5) 3 [(3, .int (x3 + 5)), (0, .ref b), (1, .ref h0), (2, .ref m0)] rfl (congrArg (fun z => x3 + z) (by decide : Int32.ofInt (5) = (5 : Int32))) (by decide) rfl dL_law_771 ?_
    refine V_goto hC 18 (by decide) dL_law_774 ?_
    refine V_lv [(0, .ref b), (1, .ref h0), (2, .ref m0), (3, .int (x3 + 5))] [1, 2, 3, 0] rfl ?_
    exact hJ (x3 + 5) g2 a0 n0 r0 n_saved a1 n1 r1 a2 n2 r2 a3 n3 r3 a_now_m a_past_m n_saved_m g4 n_hash_m hw
  · have hw := hw.2 c5
    refine V_iconst hC 0 dL_law_417 (by decide) ?_
    exact hw.elim
def wc_419 (L : Nat) (xs : Nat → Int32) (J : Int32 → (Nat → Int32) → (Nat → Nat) → (Nat → Int32) → (Nat → Nat → Int32) → Int32 → (Nat → Nat) → (Nat → Int32) → (Nat → Nat → Int32) → (Nat → Nat) → (Nat → Int32) → (Nat → Nat → Int32) → (Nat → Nat) → (Nat → Int32) → (Nat → Nat → Int32) → (Nat → Int32) → (Nat → Int32) → Int32 → (Nat → Int32) → Int64 → Prop) (x3 : Int32) (a_errors : Nat → Int32) (a0 : Nat → Nat) (n0 : Nat → Int32) (r0 : Nat → Nat → Int32) (n_saved : Int32) (a1 : Nat → Nat) (n1 : Nat → Int32) (r1 : Nat → Nat → Int32) (a2 : Nat → Nat) (n2 : Nat → Int32) (r2 : Nat → Nat → Int32) (a3 : Nat → Nat) (n3 : Nat → Int32) (r3 : Nat → Nat → Int32) (a_now_m : Nat → Int32) (a_past_m : Nat → Int32) (n_saved_m : Int32) (a_errors_m : Nat → Int32) (n_hash_m : Int64) : Prop := (wp_X8_remembered a_errors n0 r0 (fun (v1 : Int32) => (wp_X9_remembered a_now_m a_past_m n_saved_m a_errors_m n_hash_m (fun (v2 : Int32) => ((v1 = v2 → J (x3 + 5) a_errors a0 n0 r0 n_saved a1 n1 r1 a2 n2 r2 a3 n3 r3 a_now_m a_past_m n_saved_m a_errors_m n_hash_m) ∧ (¬ (v1 = v2) → False))))))
set_option maxRecDepth 100000 in
set_option maxHeartbeats 4000000 in
theorem bc_419 {p : Program} {l : Launch} {e : Env} {s : State} {m : MethodId} {below : List Frame} {meth : Method} {c : Code} {E : EN} {A : Nat → Prop} {b L : Nat} {xs : Nat → Int32} (hC : Cx p s m #[.ref b] meth c E A cL_law 4 "CookieServerLaw") (hr : meth.sig.returnType = ret) (hX : va_X b L xs s s.heap ∧ b < s.heap.size ∧ ¬ A b) (hA9 : ∀ q, A q → s.heap.size ≤ q) (h0 : Nat) (hh : Nat) (he : Nat) (ha : Nat) (m0 : Nat) (m1 : Nat) (m2 : Nat) (m3 : Nat) (J : Int32 → (Nat → Int32) → (Nat → Nat) → (Nat → Int32) → (Nat → Nat → Int32) → Int32 → (Nat → Nat) → (Nat → Int32) → (Nat → Nat → Int32) → (Nat → Nat) → (Nat → Int32) → (Nat → Nat → Int32) → (Nat → Nat) → (Nat → Int32) → (Nat → Nat → Int32) → (Nat → Int32) → (Nat → Int32) → Int32 → (Nat → Int32) → Int64 → Prop) (hJ : ∀ (x3 : Int32) (a_errors : Nat → Int32) (a0 : Nat → Nat) (n0 : Nat → Int32) (r0 : Nat → Nat → Int32) (n_saved : Int32) (a1 : Nat → Nat) (n1 : Nat → Int32) (r1 : Nat → Nat → Int32) (a2 : Nat → Nat) (n2 : Nat → Int32) (r2 : Nat → Nat → Int32) (a3 : Nat → Nat) (n3 : Nat → Int32) (r3 : Nat → Nat → Int32) (a_now_m : Nat → Int32) (a_past_m : Nat → Int32) (n_saved_m : Int32) (a_errors_m : Nat → Int32) (n_hash_m : Int64), J x3 a_errors a0 n0 r0 n_saved a1 n1 r1 a2 n2 r2 a3 n3 r3 a_now_m a_past_m n_saved_m a_errors_m n_hash_m → V p l e room_1 s m #[.ref b] below meth c E A 4 76 3239 (lw_Z below #[.ref b] s) 18 [(0, .ref b), (1, .ref h0), (2, .ref m0), (3, .int x3)] [] (LW E h0 hh he ha m0 m1 m2 m3 a_errors a0 n0 r0 n_saved a1 n1 r1 a2 n2 r2 a3 n3 r3 a_now_m a_past_m n_saved_m a_errors_m n_hash_m)) (x3 : Int32) (a_errors : Nat → Int32) (a0 : Nat → Nat) (n0 : Nat → Int32) (r0 : Nat → Nat → Int32) (n_saved : Int32) (a1 : Nat → Nat) (n1 : Nat → Int32) (r1 : Nat → Nat → Int32) (a2 : Nat → Nat) (n2 : Nat → Int32) (r2 : Nat → Nat → Int32) (a3 : Nat → Nat) (n3 : Nat → Int32) (r3 : Nat → Nat → Int32) (a_now_m : Nat → Int32) (a_past_m : Nat → Int32) (n_saved_m : Int32) (a_errors_m : Nat → Int32) (n_hash_m : Int64) (hw : wc_419 L xs J x3 a_errors a0 n0 r0 n_saved a1 n1 r1 a2 n2 r2 a3 n3 r3 a_now_m a_past_m n_saved_m a_errors_m n_hash_m) : V p l e room_1 s m #[.ref b] below meth c E A 4 76 3239 (lw_Z below #[.ref b] s) 419 [(0, .ref b), (1, .ref h0), (2, .ref m0), (3, .int x3)] [] (LW E h0 hh he ha m0 m1 m2 m3 a_errors a0 n0 r0 n_saved a1 n1 r1 a2 n2 r2 a3 n3 r3 a_now_m a_past_m n_saved_m a_errors_m n_hash_m) := by
  rw [wc_419] at hw
  refine V_aload_n hC 1 rfl rfl dL_law_419 ?_
  refine V_callP hC ((LW E h0 hh he ha m0 m1 m2 m3 a_errors a0 n0 r0 n_saved a1 n1 r1 a2 n2 r2 a3 n3 r3 a_now_m a_past_m n_saved_m a_errors_m n_hash_m).drop 19) 0 [] [] (ct_X8_remembered l E h0 hh he a0 a_errors n0 r0 _ hw) wd_472 wd_32 wd_469 wd_470 wd_471 (by decide +kernel) rfl ⟨Nat.le_of_ble_eq_true rfl, Nat.le_of_ble_eq_true rfl⟩ rfl rfl rfl rfl (Nat.le_of_ble_eq_true rfl) ⟨Nat.le_of_ble_eq_true rfl, Nat.le_of_ble_eq_true rfl⟩ dL_law_420 (fun v ws' hp => ?_)
  obtain ⟨v1, rfl, rfl, hw⟩ := hp
  refine V_wst [.int v1] (LW E h0 hh he ha m0 m1 m2 m3 a_errors a0 n0 r0 n_saved a1 n1 r1 a2 n2 r2 a3 n3 r3 a_now_m a_past_m n_saved_m a_errors_m n_hash_m) rfl rfl ?_
  refine V_aload_n hC 2 rfl rfl dL_law_423 ?_
  refine V_callQ hC ((LW E h0 hh he ha m0 m1 m2 m3 a_errors a0 n0 r0 n_saved a1 n1 r1 a2 n2 r2 a3 n3 r3 a_now_m a_past_m n_saved_m a_errors_m n_hash_m).take 72) 0 [] [.int v1] (ct_X9_remembered l E m0 m1 m2 m3 a_now_m a_past_m n_saved_m a_errors_m n_hash_m _ hw) wd_764 wd_40 wd_761 wd_762 wd_763 (by decide +kernel) rfl ⟨Nat.le_of_ble_eq_true rfl, Nat.le_of_ble_eq_true rfl⟩ rfl rfl rfl rfl (Nat.le_of_ble_eq_true rfl) ⟨Nat.le_of_ble_eq_true rfl, Nat.le_of_ble_eq_true rfl⟩ dL_law_424 (fun v ws' hp => ?_)
  obtain ⟨v2, rfl, rfl, hw⟩ := hp
  refine V_wst [.int v2, .int v1] (LW E h0 hh he ha m0 m1 m2 m3 a_errors a0 n0 r0 n_saved a1 n1 r1 a2 n2 r2 a3 n3 r3 a_now_m a_past_m n_saved_m a_errors_m n_hash_m) rfl rfl ?_
  refine V_icmp_eq hC 771 (by decide) dL_law_427 (fun c3 => ?_) (fun c3 => ?_)
  · have hw := hw.1 c3
    refine V_iinc hC (x3 + 5) 3 [(3, .int (x3 + 5)), (0, .ref b), (1, .ref h0), (2, .ref m0)] rfl (congrArg (fun z => x3 + z) (by decide : Int32.ofInt (5) = (5 : Int32))) (by decide) rfl dL_law_771 ?_
    refine V_goto hC 18 (by decide) dL_law_774 ?_
    refine V_lv [(0, .ref b), (1, .ref h0), (2, .ref m0), (3, .int (x3 + 5))] [1, 2, 3, 0] rfl ?_
    exact hJ (x3 + 5) a_errors a0 n0 r0 n_saved a1 n1 r1 a2 n2 r2 a3 n3 r3 a_now_m a_past_m n_saved_m a_errors_m n_hash_m hw
  · have hw := hw.2 c3
    refine V_iconst hC 0 dL_law_430 (by decide) ?_
    exact hw.elim
def wc_432 (L : Nat) (xs : Nat → Int32) (J : Int32 → (Nat → Int32) → (Nat → Nat) → (Nat → Int32) → (Nat → Nat → Int32) → Int32 → (Nat → Nat) → (Nat → Int32) → (Nat → Nat → Int32) → (Nat → Nat) → (Nat → Int32) → (Nat → Nat → Int32) → (Nat → Nat) → (Nat → Int32) → (Nat → Nat → Int32) → (Nat → Int32) → (Nat → Int32) → Int32 → (Nat → Int32) → Int64 → Prop) (x3 : Int32) (a_errors : Nat → Int32) (a0 : Nat → Nat) (n0 : Nat → Int32) (r0 : Nat → Nat → Int32) (n_saved : Int32) (a1 : Nat → Nat) (n1 : Nat → Int32) (r1 : Nat → Nat → Int32) (a2 : Nat → Nat) (n2 : Nat → Int32) (r2 : Nat → Nat → Int32) (a3 : Nat → Nat) (n3 : Nat → Int32) (r3 : Nat → Nat → Int32) (a_now_m : Nat → Int32) (a_past_m : Nat → Int32) (n_saved_m : Int32) (a_errors_m : Nat → Int32) (n_hash_m : Int64) : Prop := (wp_X8_epoch a_errors n0 r0 (fun (v1 : Int32) => (wp_X9_epoch a_now_m a_past_m n_saved_m a_errors_m n_hash_m (fun (v2 : Int32) => ((v1 = v2 → J (x3 + 5) a_errors a0 n0 r0 n_saved a1 n1 r1 a2 n2 r2 a3 n3 r3 a_now_m a_past_m n_saved_m a_errors_m n_hash_m) ∧ (¬ (v1 = v2) → False))))))
set_option maxRecDepth 100000 in
set_option maxHeartbeats 4000000 in
theorem bc_432 {p : Program} {l : Launch} {e : Env} {s : State} {m : MethodId} {below : List Frame} {meth : Method} {c : Code} {E : EN} {A : Nat → Prop} {b L : Nat} {xs : Nat → Int32} (hC : Cx p s m #[.ref b] meth c E A cL_law 4 "CookieServerLaw") (hr : meth.sig.returnType = ret) (hX : va_X b L xs s s.heap ∧ b < s.heap.size ∧ ¬ A b) (hA9 : ∀ q, A q → s.heap.size ≤ q) (h0 : Nat) (hh : Nat) (he : Nat) (ha : Nat) (m0 : Nat) (m1 : Nat) (m2 : Nat) (m3 : Nat) (J : Int32 → (Nat → Int32) → (Nat → Nat) → (Nat → Int32) → (Nat → Nat → Int32) → Int32 → (Nat → Nat) → (Nat → Int32) → (Nat → Nat → Int32) → (Nat → Nat) → (Nat → Int32) → (Nat → Nat → Int32) → (Nat → Nat) → (Nat → Int32) → (Nat → Nat → Int32) → (Nat → Int32) → (Nat → Int32) → Int32 → (Nat → Int32) → Int64 → Prop) (hJ : ∀ (x3 : Int32) (a_errors : Nat → Int32) (a0 : Nat → Nat) (n0 : Nat → Int32) (r0 : Nat → Nat → Int32) (n_saved : Int32) (a1 : Nat → Nat) (n1 : Nat → Int32) (r1 : Nat → Nat → Int32) (a2 : Nat → Nat) (n2 : Nat → Int32) (r2 : Nat → Nat → Int32) (a3 : Nat → Nat) (n3 : Nat → Int32) (r3 : Nat → Nat → Int32) (a_now_m : Nat → Int32) (a_past_m : Nat → Int32) (n_saved_m : Int32) (a_errors_m : Nat → Int32) (n_hash_m : Int64), J x3 a_errors a0 n0 r0 n_saved a1 n1 r1 a2 n2 r2 a3 n3 r3 a_now_m a_past_m n_saved_m a_errors_m n_hash_m → V p l e room_1 s m #[.ref b] below meth c E A 4 76 3239 (lw_Z below #[.ref b] s) 18 [(0, .ref b), (1, .ref h0), (2, .ref m0), (3, .int x3)] [] (LW E h0 hh he ha m0 m1 m2 m3 a_errors a0 n0 r0 n_saved a1 n1 r1 a2 n2 r2 a3 n3 r3 a_now_m a_past_m n_saved_m a_errors_m n_hash_m)) (x3 : Int32) (a_errors : Nat → Int32) (a0 : Nat → Nat) (n0 : Nat → Int32) (r0 : Nat → Nat → Int32) (n_saved : Int32) (a1 : Nat → Nat) (n1 : Nat → Int32) (r1 : Nat → Nat → Int32) (a2 : Nat → Nat) (n2 : Nat → Int32) (r2 : Nat → Nat → Int32) (a3 : Nat → Nat) (n3 : Nat → Int32) (r3 : Nat → Nat → Int32) (a_now_m : Nat → Int32) (a_past_m : Nat → Int32) (n_saved_m : Int32) (a_errors_m : Nat → Int32) (n_hash_m : Int64) (hw : wc_432 L xs J x3 a_errors a0 n0 r0 n_saved a1 n1 r1 a2 n2 r2 a3 n3 r3 a_now_m a_past_m n_saved_m a_errors_m n_hash_m) : V p l e room_1 s m #[.ref b] below meth c E A 4 76 3239 (lw_Z below #[.ref b] s) 432 [(0, .ref b), (1, .ref h0), (2, .ref m0), (3, .int x3)] [] (LW E h0 hh he ha m0 m1 m2 m3 a_errors a0 n0 r0 n_saved a1 n1 r1 a2 n2 r2 a3 n3 r3 a_now_m a_past_m n_saved_m a_errors_m n_hash_m) := by
  rw [wc_432] at hw
  refine V_aload_n hC 1 rfl rfl dL_law_432 ?_
  refine V_callP hC ((LW E h0 hh he ha m0 m1 m2 m3 a_errors a0 n0 r0 n_saved a1 n1 r1 a2 n2 r2 a3 n3 r3 a_now_m a_past_m n_saved_m a_errors_m n_hash_m).drop 19) 0 [] [] (ct_X8_epoch l E h0 hh he a0 a_errors n0 r0 _ hw) wd_476 wd_32 wd_473 wd_474 wd_475 (by decide +kernel) rfl ⟨Nat.le_of_ble_eq_true rfl, Nat.le_of_ble_eq_true rfl⟩ rfl rfl rfl rfl (Nat.le_of_ble_eq_true rfl) ⟨Nat.le_of_ble_eq_true rfl, Nat.le_of_ble_eq_true rfl⟩ dL_law_433 (fun v ws' hp => ?_)
  obtain ⟨v1, rfl, rfl, hw⟩ := hp
  refine V_wst [.int v1] (LW E h0 hh he ha m0 m1 m2 m3 a_errors a0 n0 r0 n_saved a1 n1 r1 a2 n2 r2 a3 n3 r3 a_now_m a_past_m n_saved_m a_errors_m n_hash_m) rfl rfl ?_
  refine V_aload_n hC 2 rfl rfl dL_law_436 ?_
  refine V_callQ hC ((LW E h0 hh he ha m0 m1 m2 m3 a_errors a0 n0 r0 n_saved a1 n1 r1 a2 n2 r2 a3 n3 r3 a_now_m a_past_m n_saved_m a_errors_m n_hash_m).take 72) 0 [] [.int v1] (ct_X9_epoch l E m0 m1 m2 m3 a_now_m a_past_m n_saved_m a_errors_m n_hash_m _ hw) wd_768 wd_40 wd_765 wd_766 wd_767 (by decide +kernel) rfl ⟨Nat.le_of_ble_eq_true rfl, Nat.le_of_ble_eq_true rfl⟩ rfl rfl rfl rfl (Nat.le_of_ble_eq_true rfl) ⟨Nat.le_of_ble_eq_true rfl, Nat.le_of_ble_eq_true rfl⟩ dL_law_437 (fun v ws' hp => ?_)
  obtain ⟨v2, rfl, rfl, hw⟩ := hp
  refine V_wst [.int v2, .int v1] (LW E h0 hh he ha m0 m1 m2 m3 a_errors a0 n0 r0 n_saved a1 n1 r1 a2 n2 r2 a3 n3 r3 a_now_m a_past_m n_saved_m a_errors_m n_hash_m) rfl rfl ?_
  refine V_icmp_eq hC 771 (by decide) dL_law_440 (fun c3 => ?_) (fun c3 => ?_)
  · have hw := hw.1 c3
    refine V_iinc hC (x3 + 5) 3 [(3, .int (x3 + 5)), (0, .ref b), (1, .ref h0), (2, .ref m0)] rfl (congrArg (fun z => x3 + z) (by decide : Int32.ofInt (5) = (5 : Int32))) (by decide) rfl dL_law_771 ?_
    refine V_goto hC 18 (by decide) dL_law_774 ?_
    refine V_lv [(0, .ref b), (1, .ref h0), (2, .ref m0), (3, .int (x3 + 5))] [1, 2, 3, 0] rfl ?_
    exact hJ (x3 + 5) a_errors a0 n0 r0 n_saved a1 n1 r1 a2 n2 r2 a3 n3 r3 a_now_m a_past_m n_saved_m a_errors_m n_hash_m hw
  · have hw := hw.2 c3
    refine V_iconst hC 0 dL_law_443 (by decide) ?_
    exact hw.elim
def wc_445 (L : Nat) (xs : Nat → Int32) (J : Int32 → (Nat → Int32) → (Nat → Nat) → (Nat → Int32) → (Nat → Nat → Int32) → Int32 → (Nat → Nat) → (Nat → Int32) → (Nat → Nat → Int32) → (Nat → Nat) → (Nat → Int32) → (Nat → Nat → Int32) → (Nat → Nat) → (Nat → Int32) → (Nat → Nat → Int32) → (Nat → Int32) → (Nat → Int32) → Int32 → (Nat → Int32) → Int64 → Prop) (x3 : Int32) (a_errors : Nat → Int32) (a0 : Nat → Nat) (n0 : Nat → Int32) (r0 : Nat → Nat → Int32) (n_saved : Int32) (a1 : Nat → Nat) (n1 : Nat → Int32) (r1 : Nat → Nat → Int32) (a2 : Nat → Nat) (n2 : Nat → Int32) (r2 : Nat → Nat → Int32) (a3 : Nat → Nat) (n3 : Nat → Int32) (r3 : Nat → Nat → Int32) (a_now_m : Nat → Int32) (a_past_m : Nat → Int32) (n_saved_m : Int32) (a_errors_m : Nat → Int32) (n_hash_m : Int64) : Prop := (wp_X8_load a_errors n0 r0 (fun (v1 : Int32) => (wp_X9_load a_now_m a_past_m n_saved_m a_errors_m n_hash_m (fun (v2 : Int32) => ((v1 = v2 → J (x3 + 5) a_errors a0 n0 r0 n_saved a1 n1 r1 a2 n2 r2 a3 n3 r3 a_now_m a_past_m n_saved_m a_errors_m n_hash_m) ∧ (¬ (v1 = v2) → False))))))
set_option maxRecDepth 100000 in
set_option maxHeartbeats 4000000 in
theorem bc_445 {p : Program} {l : Launch} {e : Env} {s : State} {m : MethodId} {below : List Frame} {meth : Method} {c : Code} {E : EN} {A : Nat → Prop} {b L : Nat} {xs : Nat → Int32} (hC : Cx p s m #[.ref b] meth c E A cL_law 4 "CookieServerLaw") (hr : meth.sig.returnType = ret) (hX : va_X b L xs s s.heap ∧ b < s.heap.size ∧ ¬ A b) (hA9 : ∀ q, A q → s.heap.size ≤ q) (h0 : Nat) (hh : Nat) (he : Nat) (ha : Nat) (m0 : Nat) (m1 : Nat) (m2 : Nat) (m3 : Nat) (J : Int32 → (Nat → Int32) → (Nat → Nat) → (Nat → Int32) → (Nat → Nat → Int32) → Int32 → (Nat → Nat) → (Nat → Int32) → (Nat → Nat → Int32) → (Nat → Nat) → (Nat → Int32) → (Nat → Nat → Int32) → (Nat → Nat) → (Nat → Int32) → (Nat → Nat → Int32) → (Nat → Int32) → (Nat → Int32) → Int32 → (Nat → Int32) → Int64 → Prop) (hJ : ∀ (x3 : Int32) (a_errors : Nat → Int32) (a0 : Nat → Nat) (n0 : Nat → Int32) (r0 : Nat → Nat → Int32) (n_saved : Int32) (a1 : Nat → Nat) (n1 : Nat → Int32) (r1 : Nat → Nat → Int32) (a2 : Nat → Nat) (n2 : Nat → Int32) (r2 : Nat → Nat → Int32) (a3 : Nat → Nat) (n3 : Nat → Int32) (r3 : Nat → Nat → Int32) (a_now_m : Nat → Int32) (a_past_m : Nat → Int32) (n_saved_m : Int32) (a_errors_m : Nat → Int32) (n_hash_m : Int64), J x3 a_errors a0 n0 r0 n_saved a1 n1 r1 a2 n2 r2 a3 n3 r3 a_now_m a_past_m n_saved_m a_errors_m n_hash_m → V p l e room_1 s m #[.ref b] below meth c E A 4 76 3239 (lw_Z below #[.ref b] s) 18 [(0, .ref b), (1, .ref h0), (2, .ref m0), (3, .int x3)] [] (LW E h0 hh he ha m0 m1 m2 m3 a_errors a0 n0 r0 n_saved a1 n1 r1 a2 n2 r2 a3 n3 r3 a_now_m a_past_m n_saved_m a_errors_m n_hash_m)) (x3 : Int32) (a_errors : Nat → Int32) (a0 : Nat → Nat) (n0 : Nat → Int32) (r0 : Nat → Nat → Int32) (n_saved : Int32) (a1 : Nat → Nat) (n1 : Nat → Int32) (r1 : Nat → Nat → Int32) (a2 : Nat → Nat) (n2 : Nat → Int32) (r2 : Nat → Nat → Int32) (a3 : Nat → Nat) (n3 : Nat → Int32) (r3 : Nat → Nat → Int32) (a_now_m : Nat → Int32) (a_past_m : Nat → Int32) (n_saved_m : Int32) (a_errors_m : Nat → Int32) (n_hash_m : Int64) (hw : wc_445 L xs J x3 a_errors a0 n0 r0 n_saved a1 n1 r1 a2 n2 r2 a3 n3 r3 a_now_m a_past_m n_saved_m a_errors_m n_hash_m) : V p l e room_1 s m #[.ref b] below meth c E A 4 76 3239 (lw_Z below #[.ref b] s) 445 [(0, .ref b), (1, .ref h0), (2, .ref m0), (3, .int x3)] [] (LW E h0 hh he ha m0 m1 m2 m3 a_errors a0 n0 r0 n_saved a1 n1 r1 a2 n2 r2 a3 n3 r3 a_now_m a_past_m n_saved_m a_errors_m n_hash_m) := by
  rw [wc_445] at hw
  refine V_aload_n hC 1 rfl rfl dL_law_445 ?_
  refine V_callP hC ((LW E h0 hh he ha m0 m1 m2 m3 a_errors a0 n0 r0 n_saved a1 n1 r1 a2 n2 r2 a3 n3 r3 a_now_m a_past_m n_saved_m a_errors_m n_hash_m).drop 19) 0 [] [] (ct_X8_load l E h0 hh he a0 a_errors n0 r0 _ hw) wd_480 wd_32 wd_477 wd_478 wd_479 (by decide +kernel) rfl ⟨Nat.le_of_ble_eq_true rfl, Nat.le_of_ble_eq_true rfl⟩ rfl rfl rfl rfl (Nat.le_of_ble_eq_true rfl) ⟨Nat.le_of_ble_eq_true rfl, Nat.le_of_ble_eq_true rfl⟩ dL_law_446 (fun v ws' hp => ?_)
  obtain ⟨v1, rfl, rfl, hw⟩ := hp
  refine V_wst [.int v1] (LW E h0 hh he ha m0 m1 m2 m3 a_errors a0 n0 r0 n_saved a1 n1 r1 a2 n2 r2 a3 n3 r3 a_now_m a_past_m n_saved_m a_errors_m n_hash_m) rfl rfl ?_
  refine V_aload_n hC 2 rfl rfl dL_law_449 ?_
  refine V_callQ hC ((LW E h0 hh he ha m0 m1 m2 m3 a_errors a0 n0 r0 n_saved a1 n1 r1 a2 n2 r2 a3 n3 r3 a_now_m a_past_m n_saved_m a_errors_m n_hash_m).take 72) 0 [] [.int v1] (ct_X9_load l E m0 m1 m2 m3 a_now_m a_past_m n_saved_m a_errors_m n_hash_m _ hw) wd_772 wd_40 wd_769 wd_770 wd_771 (by decide +kernel) rfl ⟨Nat.le_of_ble_eq_true rfl, Nat.le_of_ble_eq_true rfl⟩ rfl rfl rfl rfl (Nat.le_of_ble_eq_true rfl) ⟨Nat.le_of_ble_eq_true rfl, Nat.le_of_ble_eq_true rfl⟩ dL_law_450 (fun v ws' hp => ?_)
  obtain ⟨v2, rfl, rfl, hw⟩ := hp
  refine V_wst [.int v2, .int v1] (LW E h0 hh he ha m0 m1 m2 m3 a_errors a0 n0 r0 n_saved a1 n1 r1 a2 n2 r2 a3 n3 r3 a_now_m a_past_m n_saved_m a_errors_m n_hash_m) rfl rfl ?_
  refine V_icmp_eq hC 771 (by decide) dL_law_453 (fun c3 => ?_) (fun c3 => ?_)
  · have hw := hw.1 c3
    refine V_iinc hC (x3 + 5) 3 [(3, .int (x3 + 5)), (0, .ref b), (1, .ref h0), (2, .ref m0)] rfl (congrArg (fun z => x3 + z) (by decide : Int32.ofInt (5) = (5 : Int32))) (by decide) rfl dL_law_771 ?_
    refine V_goto hC 18 (by decide) dL_law_774 ?_
    refine V_lv [(0, .ref b), (1, .ref h0), (2, .ref m0), (3, .int (x3 + 5))] [1, 2, 3, 0] rfl ?_
    exact hJ (x3 + 5) a_errors a0 n0 r0 n_saved a1 n1 r1 a2 n2 r2 a3 n3 r3 a_now_m a_past_m n_saved_m a_errors_m n_hash_m hw
  · have hw := hw.2 c3
    refine V_iconst hC 0 dL_law_456 (by decide) ?_
    exact hw.elim
def wc_458 (L : Nat) (xs : Nat → Int32) (J : Int32 → (Nat → Int32) → (Nat → Nat) → (Nat → Int32) → (Nat → Nat → Int32) → Int32 → (Nat → Nat) → (Nat → Int32) → (Nat → Nat → Int32) → (Nat → Nat) → (Nat → Int32) → (Nat → Nat → Int32) → (Nat → Nat) → (Nat → Int32) → (Nat → Nat → Int32) → (Nat → Int32) → (Nat → Int32) → Int32 → (Nat → Int32) → Int64 → Prop) (x3 : Int32) (a_errors : Nat → Int32) (a0 : Nat → Nat) (n0 : Nat → Int32) (r0 : Nat → Nat → Int32) (n_saved : Int32) (a1 : Nat → Nat) (n1 : Nat → Int32) (r1 : Nat → Nat → Int32) (a2 : Nat → Nat) (n2 : Nat → Int32) (r2 : Nat → Nat → Int32) (a3 : Nat → Nat) (n3 : Nat → Int32) (r3 : Nat → Nat → Int32) (a_now_m : Nat → Int32) (a_past_m : Nat → Int32) (n_saved_m : Int32) (a_errors_m : Nat → Int32) (n_hash_m : Int64) : Prop := (wp_X8_difficulty a_errors n0 r0 (fun (v1 : Int32) => (wp_X9_difficulty a_now_m a_past_m n_saved_m a_errors_m n_hash_m (fun (v2 : Int32) => ((v1 = v2 → J (x3 + 5) a_errors a0 n0 r0 n_saved a1 n1 r1 a2 n2 r2 a3 n3 r3 a_now_m a_past_m n_saved_m a_errors_m n_hash_m) ∧ (¬ (v1 = v2) → False))))))
set_option maxRecDepth 100000 in
set_option maxHeartbeats 4000000 in
theorem bc_458 {p : Program} {l : Launch} {e : Env} {s : State} {m : MethodId} {below : List Frame} {meth : Method} {c : Code} {E : EN} {A : Nat → Prop} {b L : Nat} {xs : Nat → Int32} (hC : Cx p s m #[.ref b] meth c E A cL_law 4 "CookieServerLaw") (hr : meth.sig.returnType = ret) (hX : va_X b L xs s s.heap ∧ b < s.heap.size ∧ ¬ A b) (hA9 : ∀ q, A q → s.heap.size ≤ q) (h0 : Nat) (hh : Nat) (he : Nat) (ha : Nat) (m0 : Nat) (m1 : Nat) (m2 : Nat) (m3 : Nat) (J : Int32 → (Nat → Int32) → (Nat → Nat) → (Nat → Int32) → (Nat → Nat → Int32) → Int32 → (Nat → Nat) → (Nat → Int32) → (Nat → Nat → Int32) → (Nat → Nat) → (Nat → Int32) → (Nat → Nat → Int32) → (Nat → Nat) → (Nat → Int32) → (Nat → Nat → Int32) → (Nat → Int32) → (Nat → Int32) → Int32 → (Nat → Int32) → Int64 → Prop) (hJ : ∀ (x3 : Int32) (a_errors : Nat → Int32) (a0 : Nat → Nat) (n0 : Nat → Int32) (r0 : Nat → Nat → Int32) (n_saved : Int32) (a1 : Nat → Nat) (n1 : Nat → Int32) (r1 : Nat → Nat → Int32) (a2 : Nat → Nat) (n2 : Nat → Int32) (r2 : Nat → Nat → Int32) (a3 : Nat → Nat) (n3 : Nat → Int32) (r3 : Nat → Nat → Int32) (a_now_m : Nat → Int32) (a_past_m : Nat → Int32) (n_saved_m : Int32) (a_errors_m : Nat → Int32) (n_hash_m : Int64), J x3 a_errors a0 n0 r0 n_saved a1 n1 r1 a2 n2 r2 a3 n3 r3 a_now_m a_past_m n_saved_m a_errors_m n_hash_m → V p l e room_1 s m #[.ref b] below meth c E A 4 76 3239 (lw_Z below #[.ref b] s) 18 [(0, .ref b), (1, .ref h0), (2, .ref m0), (3, .int x3)] [] (LW E h0 hh he ha m0 m1 m2 m3 a_errors a0 n0 r0 n_saved a1 n1 r1 a2 n2 r2 a3 n3 r3 a_now_m a_past_m n_saved_m a_errors_m n_hash_m)) (x3 : Int32) (a_errors : Nat → Int32) (a0 : Nat → Nat) (n0 : Nat → Int32) (r0 : Nat → Nat → Int32) (n_saved : Int32) (a1 : Nat → Nat) (n1 : Nat → Int32) (r1 : Nat → Nat → Int32) (a2 : Nat → Nat) (n2 : Nat → Int32) (r2 : Nat → Nat → Int32) (a3 : Nat → Nat) (n3 : Nat → Int32) (r3 : Nat → Nat → Int32) (a_now_m : Nat → Int32) (a_past_m : Nat → Int32) (n_saved_m : Int32) (a_errors_m : Nat → Int32) (n_hash_m : Int64) (hw : wc_458 L xs J x3 a_errors a0 n0 r0 n_saved a1 n1 r1 a2 n2 r2 a3 n3 r3 a_now_m a_past_m n_saved_m a_errors_m n_hash_m) : V p l e room_1 s m #[.ref b] below meth c E A 4 76 3239 (lw_Z below #[.ref b] s) 458 [(0, .ref b), (1, .ref h0), (2, .ref m0), (3, .int x3)] [] (LW E h0 hh he ha m0 m1 m2 m3 a_errors a0 n0 r0 n_saved a1 n1 r1 a2 n2 r2 a3 n3 r3 a_now_m a_past_m n_saved_m a_errors_m n_hash_m) := by
  rw [wc_458] at hw
  refine V_aload_n hC 1 rfl rfl dL_law_458 ?_
  refine V_callP hC ((LW E h0 hh he ha m0 m1 m2 m3 a_errors a0 n0 r0 n_saved a1 n1 r1 a2 n2 r2 a3 n3 r3 a_now_m a_past_m n_saved_m a_errors_m n_hash_m).drop 19) 0 [] [] (ct_X8_difficulty l E h0 hh he a0 a_errors n0 r0 _ hw) wd_484 wd_32 wd_481 wd_482 wd_483 (by decide +kernel) rfl ⟨Nat.le_of_ble_eq_true rfl, Nat.le_of_ble_eq_true rfl⟩ rfl rfl rfl rfl (Nat.le_of_ble_eq_true rfl) ⟨Nat.le_of_ble_eq_true rfl, Nat.le_of_ble_eq_true rfl⟩ dL_law_459 (fun v ws' hp => ?_)
  obtain ⟨v1, rfl, rfl, hw⟩ := hp
  refine V_wst [.int v1] (LW E h0 hh he ha m0 m1 m2 m3 a_errors a0 n0 r0 n_saved a1 n1 r1 a2 n2 r2 a3 n3 r3 a_now_m a_past_m n_saved_m a_errors_m n_hash_m) rfl rfl ?_
  refine V_aload_n hC 2 rfl rfl dL_law_462 ?_
  refine V_callQ hC ((LW E h0 hh he ha m0 m1 m2 m3 a_errors a0 n0 r0 n_saved a1 n1 r1 a2 n2 r2 a3 n3 r3 a_now_m a_past_m n_saved_m a_errors_m n_hash_m).take 72) 0 [] [.int v1] (ct_X9_difficulty l E m0 m1 m2 m3 a_now_m a_past_m n_saved_m a_errors_m n_hash_m _ hw) wd_776 wd_40 wd_773 wd_774 wd_775 (by decide +kernel) rfl ⟨Nat.le_of_ble_eq_true rfl, Nat.le_of_ble_eq_true rfl⟩ rfl rfl rfl rfl (Nat.le_of_ble_eq_true rfl) ⟨Nat.le_of_ble_eq_true rfl, Nat.le_of_ble_eq_true rfl⟩ dL_law_463 (fun v ws' hp => ?_)
  obtain ⟨v2, rfl, rfl, hw⟩ := hp
  refine V_wst [.int v2, .int v1] (LW E h0 hh he ha m0 m1 m2 m3 a_errors a0 n0 r0 n_saved a1 n1 r1 a2 n2 r2 a3 n3 r3 a_now_m a_past_m n_saved_m a_errors_m n_hash_m) rfl rfl ?_
  refine V_icmp_eq hC 771 (by decide) dL_law_466 (fun c3 => ?_) (fun c3 => ?_)
  · have hw := hw.1 c3
    refine V_iinc hC (x3 + 5) 3 [(3, .int (x3 + 5)), (0, .ref b), (1, .ref h0), (2, .ref m0)] rfl (congrArg (fun z => x3 + z) (by decide : Int32.ofInt (5) = (5 : Int32))) (by decide) rfl dL_law_771 ?_
    refine V_goto hC 18 (by decide) dL_law_774 ?_
    refine V_lv [(0, .ref b), (1, .ref h0), (2, .ref m0), (3, .int (x3 + 5))] [1, 2, 3, 0] rfl ?_
    exact hJ (x3 + 5) a_errors a0 n0 r0 n_saved a1 n1 r1 a2 n2 r2 a3 n3 r3 a_now_m a_past_m n_saved_m a_errors_m n_hash_m hw
  · have hw := hw.2 c3
    refine V_iconst hC 0 dL_law_469 (by decide) ?_
    exact hw.elim
