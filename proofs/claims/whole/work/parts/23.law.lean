section
variable {p : Program} {l : Launch} {e : Env} {s : State} {m : MethodId} {args : Array Value} {below : List Frame} {meth : Method} {c : Code} {A : Nat → Prop} {Z : rb_Z}
def la_law_p_699 (Ls : Nat) (xs : Nat → Int32) (x4 : Int32) (kc ks : Nat) (S : rb_S) : Prop := (kc ≤ 1072 ∧ ks ≤ 11935)
theorem la_law_k_699 {b Ls : Nat} {xs : Nat → Int32}  (X : rb_X p s m args meth c A Z code 7 "RoomMakerLaw" ret) (HX : la_C s args A b Ls xs) (hlt : l.stackTraces = false)  {x4 : Int32} {kc ks : Nat} {S : rb_S} (h : la_law_p_699 Ls xs x4 kc ks S) : rb_V p l e room_1 s m args below meth c A (lw_Z below args s) Z 7 699 [(0, .ref b), (1, .ref (Z.1 0)), (2, .ref (Z.1 23)), (3, .ref (Z.1 36)), (4, .int x4)] [] S kc ks := by
  unfold la_law_p_699 at h
  refine rb_iconst X 1 la_law_d699 (by decide) ?_
  exact la_end X HX la_law_d700 h.1 h.2
def la_law_p_693 (Ls : Nat) (xs : Nat → Int32) (B23 : Int32 → Nat → Nat → rb_S → Prop) (x4 : Int32) (kc ks : Nat) (S : rb_S) : Prop := ∀ v693 : Int32, v693 = x4 + 5 → (B23 v693 kc ks S)
theorem la_law_k_693 {b Ls : Nat} {xs : Nat → Int32} {B23 : Int32 → Nat → Nat → rb_S → Prop} (X : rb_X p s m args meth c A Z code 7 "RoomMakerLaw" ret) (HX : la_C s args A b Ls xs) (hlt : l.stackTraces = false) (hB23 : ∀ (x4 : Int32) (kc ks : Nat) (S : rb_S), B23 x4 kc ks S → rb_V p l e room_1 s m args below meth c A (lw_Z below args s) Z 7 23 [(0, .ref b), (1, .ref (Z.1 0)), (2, .ref (Z.1 23)), (3, .ref (Z.1 36)), (4, .int x4)] [] S kc ks) {x4 : Int32} {kc ks : Nat} {S : rb_S} (h : la_law_p_693 Ls xs B23 x4 kc ks S) : rb_V p l e room_1 s m args below meth c A (lw_Z below args s) Z 7 693 [(0, .ref b), (1, .ref (Z.1 0)), (2, .ref (Z.1 23)), (3, .ref (Z.1 36)), (4, .int x4)] [] S kc ks := by
  unfold la_law_p_693 at h
  refine rb_iinc X 5 4 [1, 2, 3, 4, 0] (fun v693 => [(0, .ref b), (1, .ref (Z.1 0)), (2, .ref (Z.1 23)), (3, .ref (Z.1 36)), (4, .int v693)]) la_law_d693 4 rfl (by decide) (by decide) (fun _ => rfl) (fun v693 e693 => ?_)
  replace h := h v693 e693
  refine rb_goto X 23 la_law_d696 (by decide) ?_
  exact hB23 _ _ _ _ h
def la_law_p_193 (Ls : Nat) (xs : Nat → Int32) (B23 : Int32 → Nat → Nat → rb_S → Prop) (x4 : Int32) (x5 : Int32) (x6 : Int32) (kc ks : Nat) (S : rb_S) : Prop := la_law_p_693 Ls xs B23 x4 kc ks S
theorem la_law_k_193 {b Ls : Nat} {xs : Nat → Int32} {B23 : Int32 → Nat → Nat → rb_S → Prop} (X : rb_X p s m args meth c A Z code 7 "RoomMakerLaw" ret) (HX : la_C s args A b Ls xs) (hlt : l.stackTraces = false) (hB23 : ∀ (x4 : Int32) (kc ks : Nat) (S : rb_S), B23 x4 kc ks S → rb_V p l e room_1 s m args below meth c A (lw_Z below args s) Z 7 23 [(0, .ref b), (1, .ref (Z.1 0)), (2, .ref (Z.1 23)), (3, .ref (Z.1 36)), (4, .int x4)] [] S kc ks) {x4 : Int32} {x5 : Int32} {x6 : Int32} {kc ks : Nat} {S : rb_S} (h : la_law_p_193 Ls xs B23 x4 x5 x6 kc ks S) : rb_V p l e room_1 s m args below meth c A (lw_Z below args s) Z 7 193 [(0, .ref b), (1, .ref (Z.1 0)), (2, .ref (Z.1 23)), (3, .ref (Z.1 36)), (4, .int x4), (5, .int x5), (6, .int x6)] [] S kc ks := by
  unfold la_law_p_193 at h
  refine rb_goto X 693 la_law_d193 (by decide) ?_
  refine rb_cut [0, 1, 2, 3, 4] (L' := [(0, .ref b), (1, .ref (Z.1 0)), (2, .ref (Z.1 23)), (3, .ref (Z.1 36)), (4, .int x4)]) rfl ?_
  exact la_law_k_693 X HX hlt hB23 h
def la_law_p_191 (Ls : Nat) (xs : Nat → Int32) (x4 : Int32) (x5 : Int32) (x6 : Int32) (kc ks : Nat) (S : rb_S) : Prop := False
theorem la_law_k_191 {b Ls : Nat} {xs : Nat → Int32}  (X : rb_X p s m args meth c A Z code 7 "RoomMakerLaw" ret) (HX : la_C s args A b Ls xs) (hlt : l.stackTraces = false)  {x4 : Int32} {x5 : Int32} {x6 : Int32} {kc ks : Nat} {S : rb_S} (h : la_law_p_191 Ls xs x4 x5 x6 kc ks S) : rb_V p l e room_1 s m args below meth c A (lw_Z below args s) Z 7 191 [(0, .ref b), (1, .ref (Z.1 0)), (2, .ref (Z.1 23)), (3, .ref (Z.1 36)), (4, .int x4), (5, .int x5), (6, .int x6)] [] S kc ks := by
  unfold la_law_p_191 at h
  refine rb_iconst X 0 la_law_d191 (by decide) ?_
  exact h.elim
def la_law_p_174 (Ls : Nat) (xs : Nat → Int32) (x4 : Int32) (x5 : Int32) (x6 : Int32) (kc ks : Nat) (S : rb_S) : Prop := False
theorem la_law_k_174 {b Ls : Nat} {xs : Nat → Int32}  (X : rb_X p s m args meth c A Z code 7 "RoomMakerLaw" ret) (HX : la_C s args A b Ls xs) (hlt : l.stackTraces = false)  {x4 : Int32} {x5 : Int32} {x6 : Int32} {kc ks : Nat} {S : rb_S} (h : la_law_p_174 Ls xs x4 x5 x6 kc ks S) : rb_V p l e room_1 s m args below meth c A (lw_Z below args s) Z 7 174 [(0, .ref b), (1, .ref (Z.1 0)), (2, .ref (Z.1 23)), (3, .ref (Z.1 36)), (4, .int x4), (5, .int x5), (6, .int x6)] [] S kc ks := by
  unfold la_law_p_174 at h
  refine rb_iconst X 0 la_law_d174 (by decide) ?_
  exact h.elim
def la_law_p_207 (Ls : Nat) (xs : Nat → Int32) (x4 : Int32) (kc ks : Nat) (S : rb_S) : Prop := False
theorem la_law_k_207 {b Ls : Nat} {xs : Nat → Int32}  (X : rb_X p s m args meth c A Z code 7 "RoomMakerLaw" ret) (HX : la_C s args A b Ls xs) (hlt : l.stackTraces = false)  {x4 : Int32} {kc ks : Nat} {S : rb_S} (h : la_law_p_207 Ls xs x4 kc ks S) : rb_V p l e room_1 s m args below meth c A (lw_Z below args s) Z 7 207 [(0, .ref b), (1, .ref (Z.1 0)), (2, .ref (Z.1 23)), (3, .ref (Z.1 36)), (4, .int x4)] [] S kc ks := by
  unfold la_law_p_207 at h
  refine rb_iconst X 0 la_law_d207 (by decide) ?_
  exact h.elim
def la_law_p_232 (Ls : Nat) (xs : Nat → Int32) (x4 : Int32) (kc ks : Nat) (S : rb_S) : Prop := False
theorem la_law_k_232 {b Ls : Nat} {xs : Nat → Int32}  (X : rb_X p s m args meth c A Z code 7 "RoomMakerLaw" ret) (HX : la_C s args A b Ls xs) (hlt : l.stackTraces = false)  {x4 : Int32} {kc ks : Nat} {S : rb_S} (h : la_law_p_232 Ls xs x4 kc ks S) : rb_V p l e room_1 s m args below meth c A (lw_Z below args s) Z 7 232 [(0, .ref b), (1, .ref (Z.1 0)), (2, .ref (Z.1 23)), (3, .ref (Z.1 36)), (4, .int x4)] [] S kc ks := by
  unfold la_law_p_232 at h
  refine rb_iconst X 0 la_law_d232 (by decide) ?_
  exact h.elim
def la_law_p_287 (Ls : Nat) (xs : Nat → Int32) (B23 : Int32 → Nat → Nat → rb_S → Prop) (x4 : Int32) (x5 : Int32) (x6 : Int32) (kc ks : Nat) (S : rb_S) : Prop := la_law_p_693 Ls xs B23 x4 kc ks S
theorem la_law_k_287 {b Ls : Nat} {xs : Nat → Int32} {B23 : Int32 → Nat → Nat → rb_S → Prop} (X : rb_X p s m args meth c A Z code 7 "RoomMakerLaw" ret) (HX : la_C s args A b Ls xs) (hlt : l.stackTraces = false) (hB23 : ∀ (x4 : Int32) (kc ks : Nat) (S : rb_S), B23 x4 kc ks S → rb_V p l e room_1 s m args below meth c A (lw_Z below args s) Z 7 23 [(0, .ref b), (1, .ref (Z.1 0)), (2, .ref (Z.1 23)), (3, .ref (Z.1 36)), (4, .int x4)] [] S kc ks) {x4 : Int32} {x5 : Int32} {x6 : Int32} {kc ks : Nat} {S : rb_S} (h : la_law_p_287 Ls xs B23 x4 x5 x6 kc ks S) : rb_V p l e room_1 s m args below meth c A (lw_Z below args s) Z 7 287 [(0, .ref b), (1, .ref (Z.1 0)), (2, .ref (Z.1 23)), (3, .ref (Z.1 36)), (4, .int x4), (5, .int x5), (6, .int x6)] [] S kc ks := by
  unfold la_law_p_287 at h
  refine rb_goto X 693 la_law_d287 (by decide) ?_
  refine rb_cut [0, 1, 2, 3, 4] (L' := [(0, .ref b), (1, .ref (Z.1 0)), (2, .ref (Z.1 23)), (3, .ref (Z.1 36)), (4, .int x4)]) rfl ?_
  exact la_law_k_693 X HX hlt hB23 h
def la_law_p_285 (Ls : Nat) (xs : Nat → Int32) (x4 : Int32) (x5 : Int32) (x6 : Int32) (kc ks : Nat) (S : rb_S) : Prop := False
theorem la_law_k_285 {b Ls : Nat} {xs : Nat → Int32}  (X : rb_X p s m args meth c A Z code 7 "RoomMakerLaw" ret) (HX : la_C s args A b Ls xs) (hlt : l.stackTraces = false)  {x4 : Int32} {x5 : Int32} {x6 : Int32} {kc ks : Nat} {S : rb_S} (h : la_law_p_285 Ls xs x4 x5 x6 kc ks S) : rb_V p l e room_1 s m args below meth c A (lw_Z below args s) Z 7 285 [(0, .ref b), (1, .ref (Z.1 0)), (2, .ref (Z.1 23)), (3, .ref (Z.1 36)), (4, .int x4), (5, .int x5), (6, .int x6)] [] S kc ks := by
  unfold la_law_p_285 at h
  refine rb_iconst X 0 la_law_d285 (by decide) ?_
  exact h.elim
def la_law_p_268 (Ls : Nat) (xs : Nat → Int32) (x4 : Int32) (x5 : Int32) (x6 : Int32) (kc ks : Nat) (S : rb_S) : Prop := False
theorem la_law_k_268 {b Ls : Nat} {xs : Nat → Int32}  (X : rb_X p s m args meth c A Z code 7 "RoomMakerLaw" ret) (HX : la_C s args A b Ls xs) (hlt : l.stackTraces = false)  {x4 : Int32} {x5 : Int32} {x6 : Int32} {kc ks : Nat} {S : rb_S} (h : la_law_p_268 Ls xs x4 x5 x6 kc ks S) : rb_V p l e room_1 s m args below meth c A (lw_Z below args s) Z 7 268 [(0, .ref b), (1, .ref (Z.1 0)), (2, .ref (Z.1 23)), (3, .ref (Z.1 36)), (4, .int x4), (5, .int x5), (6, .int x6)] [] S kc ks := by
  unfold la_law_p_268 at h
  refine rb_iconst X 0 la_law_d268 (by decide) ?_
  exact h.elim
def la_law_p_371 (Ls : Nat) (xs : Nat → Int32) (B23 : Int32 → Nat → Nat → rb_S → Prop) (x4 : Int32) (x5 : Int32) (x6 : Int32) (kc ks : Nat) (S : rb_S) : Prop := la_law_p_693 Ls xs B23 x4 kc ks S
theorem la_law_k_371 {b Ls : Nat} {xs : Nat → Int32} {B23 : Int32 → Nat → Nat → rb_S → Prop} (X : rb_X p s m args meth c A Z code 7 "RoomMakerLaw" ret) (HX : la_C s args A b Ls xs) (hlt : l.stackTraces = false) (hB23 : ∀ (x4 : Int32) (kc ks : Nat) (S : rb_S), B23 x4 kc ks S → rb_V p l e room_1 s m args below meth c A (lw_Z below args s) Z 7 23 [(0, .ref b), (1, .ref (Z.1 0)), (2, .ref (Z.1 23)), (3, .ref (Z.1 36)), (4, .int x4)] [] S kc ks) {x4 : Int32} {x5 : Int32} {x6 : Int32} {kc ks : Nat} {S : rb_S} (h : la_law_p_371 Ls xs B23 x4 x5 x6 kc ks S) : rb_V p l e room_1 s m args below meth c A (lw_Z below args s) Z 7 371 [(0, .ref b), (1, .ref (Z.1 0)), (2, .ref (Z.1 23)), (3, .ref (Z.1 36)), (4, .int x4), (5, .int x5), (6, .int x6)] [] S kc ks := by
  unfold la_law_p_371 at h
  refine rb_goto X 693 la_law_d371 (by decide) ?_
  refine rb_cut [0, 1, 2, 3, 4] (L' := [(0, .ref b), (1, .ref (Z.1 0)), (2, .ref (Z.1 23)), (3, .ref (Z.1 36)), (4, .int x4)]) rfl ?_
  exact la_law_k_693 X HX hlt hB23 h
def la_law_p_369 (Ls : Nat) (xs : Nat → Int32) (x4 : Int32) (x5 : Int32) (x6 : Int32) (kc ks : Nat) (S : rb_S) : Prop := False
theorem la_law_k_369 {b Ls : Nat} {xs : Nat → Int32}  (X : rb_X p s m args meth c A Z code 7 "RoomMakerLaw" ret) (HX : la_C s args A b Ls xs) (hlt : l.stackTraces = false)  {x4 : Int32} {x5 : Int32} {x6 : Int32} {kc ks : Nat} {S : rb_S} (h : la_law_p_369 Ls xs x4 x5 x6 kc ks S) : rb_V p l e room_1 s m args below meth c A (lw_Z below args s) Z 7 369 [(0, .ref b), (1, .ref (Z.1 0)), (2, .ref (Z.1 23)), (3, .ref (Z.1 36)), (4, .int x4), (5, .int x5), (6, .int x6)] [] S kc ks := by
  unfold la_law_p_369 at h
  refine rb_iconst X 0 la_law_d369 (by decide) ?_
  exact h.elim
def la_law_p_352 (Ls : Nat) (xs : Nat → Int32) (x4 : Int32) (x5 : Int32) (x6 : Int32) (kc ks : Nat) (S : rb_S) : Prop := False
theorem la_law_k_352 {b Ls : Nat} {xs : Nat → Int32}  (X : rb_X p s m args meth c A Z code 7 "RoomMakerLaw" ret) (HX : la_C s args A b Ls xs) (hlt : l.stackTraces = false)  {x4 : Int32} {x5 : Int32} {x6 : Int32} {kc ks : Nat} {S : rb_S} (h : la_law_p_352 Ls xs x4 x5 x6 kc ks S) : rb_V p l e room_1 s m args below meth c A (lw_Z below args s) Z 7 352 [(0, .ref b), (1, .ref (Z.1 0)), (2, .ref (Z.1 23)), (3, .ref (Z.1 36)), (4, .int x4), (5, .int x5), (6, .int x6)] [] S kc ks := by
  unfold la_law_p_352 at h
  refine rb_iconst X 0 la_law_d352 (by decide) ?_
  exact h.elim
def la_law_p_338 (Ls : Nat) (xs : Nat → Int32) (B23 : Int32 → Nat → Nat → rb_S → Prop) (x4 : Int32) (x5 : Int32) (y0 : Int32) (y1 : Int32) (kc ks : Nat) (S : rb_S) : Prop := (kc ≤ 1072 ∧ ks ≤ 11935) ∧ mo_span_p_0 (fun r338 S338 => (kc ≤ 1072 ∧ ks ≤ 11935) ∧ mo_thrown_p_0 (fun r344 S344 => (r344 = x5 → (¬ x5 = 0 → la_law_p_371 Ls xs B23 x4 x5 r338 kc ks S344) ∧ (x5 = 0 → ((lg_cmp (S344 36 0).toInt64 r338.toInt64) = 0 → la_law_p_371 Ls xs B23 x4 x5 r338 kc ks S344) ∧ (¬ (lg_cmp (S344 36 0).toInt64 r338.toInt64) = 0 → la_law_p_369 Ls xs x4 x5 r338 kc ks S344))) ∧ (¬ r344 = x5 → la_law_p_352 Ls xs x4 x5 r338 kc ks S344)) S338) y1 y0 S
theorem la_law_k_338 {b Ls : Nat} {xs : Nat → Int32} {B23 : Int32 → Nat → Nat → rb_S → Prop} (X : rb_X p s m args meth c A Z code 7 "RoomMakerLaw" ret) (HX : la_C s args A b Ls xs) (hlt : l.stackTraces = false) (hB23 : ∀ (x4 : Int32) (kc ks : Nat) (S : rb_S), B23 x4 kc ks S → rb_V p l e room_1 s m args below meth c A (lw_Z below args s) Z 7 23 [(0, .ref b), (1, .ref (Z.1 0)), (2, .ref (Z.1 23)), (3, .ref (Z.1 36)), (4, .int x4)] [] S kc ks) {x4 : Int32} {x5 : Int32} {y0 : Int32} {y1 : Int32} {kc ks : Nat} {S : rb_S} (h : la_law_p_338 Ls xs B23 x4 x5 y0 y1 kc ks S) : rb_V p l e room_1 s m args below meth c A (lw_Z below args s) Z 7 338 [(0, .ref b), (1, .ref (Z.1 0)), (2, .ref (Z.1 23)), (3, .ref (Z.1 36)), (4, .int x4), (5, .int x5)] [.int y0, .int y1, .ref (Z.1 23)] S kc ks := by
  unfold la_law_p_338 at h
  obtain ⟨hf, h⟩ := h
  refine rb_callVi (As := [.int y1, .int y0]) (rest := []) X (mo_span_c l Z h) mo_span_w ⟨by decide, by decide⟩ rw_707 rw_708 rw_709 (q0 := 23) rfl rfl rfl rfl (Nat.le_of_ble_eq_true rfl) la_law_d338 hf (fun r338 S338 h => ?_)
  refine rb_istore X 6 [1, 2, 3, 4, 5, 6, 0] (L' := [(0, .ref b), (1, .ref (Z.1 0)), (2, .ref (Z.1 23)), (3, .ref (Z.1 36)), (4, .int x4), (5, .int x5), (6, .int r338)]) la_law_d341 (by decide) rfl ?_
  refine rb_aload_n X 2 la_law_d343 rfl 2 rfl ?_
  obtain ⟨hf, h⟩ := h
  refine rb_callVi (As := []) (rest := []) X (mo_thrown_c l Z h) mo_thrown_w ⟨by decide, by decide⟩ rw_630 rw_631 rw_632 (q0 := 23) rfl rfl rfl rfl (Nat.le_of_ble_eq_true rfl) la_law_d344 hf (fun r344 S344 h => ?_)
  refine rb_iload X 5 la_law_d347 5 rfl ?_
  refine rb_icmp_eq X 354 la_law_d349 (by decide) (fun hc => ?_) (fun hc => ?_)
  · replace h := h.1 hc
    refine rb_iload X 5 la_law_d354 5 rfl ?_
    refine rb_if_ne X 371 la_law_d356 (by decide) (fun hc => ?_) (fun hc => ?_)
    · replace h := h.1 hc
      exact la_law_k_371 X HX hlt hB23 h
    · replace h := h.2 hc
      refine rb_aload_n X 3 la_law_d359 rfl 3 rfl ?_
      refine rb_iconst X 0 la_law_d360 (by decide) ?_
      refine rb_lald X la_law_d361 ?_
      refine rb_iload X 6 la_law_d362 6 rfl ?_
      refine rb_i2l X la_law_d364 ?_
      refine rb_lcmp X la_law_d365 ?_
      refine rb_if_eq X 371 la_law_d366 (by decide) (fun hc => ?_) (fun hc => ?_)
      · replace h := h.1 hc
        exact la_law_k_371 X HX hlt hB23 h
      · replace h := h.2 hc
        exact la_law_k_369 X HX hlt h
  · replace h := h.2 hc
    exact la_law_k_352 X HX hlt h
def la_law_p_311 (Ls : Nat) (xs : Nat → Int32) (B23 : Int32 → Nat → Nat → rb_S → Prop) (x4 : Int32) (y0 : Int32) (y1 : Int32) (kc ks : Nat) (S : rb_S) : Prop := (kc + 1 ≤ 1072 ∧ ks + 6 ≤ 11935) ∧ la_span_p_0 (fun r312 S312 => vp_in (x4 + 1) Ls ∧ (vp_in (x4 + 2) Ls ∧ (((xs (x4 + 2).toNatClampNeg) = 0 → la_law_p_338 Ls xs B23 x4 r312 0 (xs (x4 + 1).toNatClampNeg) (kc + 1) (ks + 6) S312) ∧ (¬ (xs (x4 + 2).toNatClampNeg) = 0 → la_law_p_338 Ls xs B23 x4 r312 1 (xs (x4 + 1).toNatClampNeg) (kc + 1) (ks + 6) S312)))) y1 y0 S
theorem la_law_k_311 {b Ls : Nat} {xs : Nat → Int32} {B23 : Int32 → Nat → Nat → rb_S → Prop} (X : rb_X p s m args meth c A Z code 7 "RoomMakerLaw" ret) (HX : la_C s args A b Ls xs) (hlt : l.stackTraces = false) (hB23 : ∀ (x4 : Int32) (kc ks : Nat) (S : rb_S), B23 x4 kc ks S → rb_V p l e room_1 s m args below meth c A (lw_Z below args s) Z 7 23 [(0, .ref b), (1, .ref (Z.1 0)), (2, .ref (Z.1 23)), (3, .ref (Z.1 36)), (4, .int x4)] [] S kc ks) {x4 : Int32} {y0 : Int32} {y1 : Int32} {kc ks : Nat} {S : rb_S} (h : la_law_p_311 Ls xs B23 x4 y0 y1 kc ks S) : rb_V p l e room_1 s m args below meth c A (lw_Z below args s) Z 7 311 [(0, .ref b), (1, .ref (Z.1 0)), (2, .ref (Z.1 23)), (3, .ref (Z.1 36)), (4, .int x4)] [.int y0, .int y1, .ref (Z.1 0)] S kc ks := by
  unfold la_law_p_311 at h
  refine rb_aload_n X 3 la_law_d311 rfl 3 rfl ?_
  obtain ⟨hf, h⟩ := h
  refine rx_callSW (n := 4) (As := [.ref (Z.1 0), .int y1, .int y0, .ref (Z.1 36)]) (rest := []) X (la_span_c l Z hlt h) rw_456 rw_0 ⟨by decide, by decide⟩ (by decide +kernel) ⟨by decide, by decide⟩ rw_454 rw_455 rfl rfl (Nat.le_of_ble_eq_true rfl) la_law_d312 hf (fun r312 S312 h => ?_)
  refine rb_istore X 5 [1, 2, 3, 4, 5, 0] (L' := [(0, .ref b), (1, .ref (Z.1 0)), (2, .ref (Z.1 23)), (3, .ref (Z.1 36)), (4, .int x4), (5, .int r312)]) la_law_d315 (by decide) rfl ?_
  refine rb_aload_n X 2 la_law_d317 rfl 2 rfl ?_
  refine rb_aload_n X 0 la_law_d318 rfl 0 rfl ?_
  refine rb_iload X 4 la_law_d319 4 rfl ?_
  refine rb_iconst X 1 la_law_d321 (by decide) ?_
  refine rb_iadd X la_law_d322 ?_
  obtain ⟨hin, h⟩ := h
  refine la_sld X HX la_law_d323 hin ?_
  refine rb_aload_n X 0 la_law_d324 rfl 0 rfl ?_
  refine rb_iload X 4 la_law_d325 4 rfl ?_
  refine rb_iconst X 2 la_law_d327 (by decide) ?_
  refine rb_iadd X la_law_d328 ?_
  obtain ⟨hin, h⟩ := h
  refine la_sld X HX la_law_d329 hin ?_
  refine rb_if_eq X 337 la_law_d330 (by decide) (fun hc => ?_) (fun hc => ?_)
  · replace h := h.1 hc
    refine rb_iconst X 0 la_law_d337 (by decide) ?_
    exact la_law_k_338 X HX hlt hB23 h
  · replace h := h.2 hc
    refine rb_iconst X 1 la_law_d333 (by decide) ?_
    refine rb_goto X 338 la_law_d334 (by decide) ?_
    exact la_law_k_338 X HX hlt hB23 h
def la_law_p_446 (Ls : Nat) (xs : Nat → Int32) (B23 : Int32 → Nat → Nat → rb_S → Prop) (x4 : Int32) (x5 : Int32) (x6 : Int32) (kc ks : Nat) (S : rb_S) : Prop := la_law_p_693 Ls xs B23 x4 kc ks S
theorem la_law_k_446 {b Ls : Nat} {xs : Nat → Int32} {B23 : Int32 → Nat → Nat → rb_S → Prop} (X : rb_X p s m args meth c A Z code 7 "RoomMakerLaw" ret) (HX : la_C s args A b Ls xs) (hlt : l.stackTraces = false) (hB23 : ∀ (x4 : Int32) (kc ks : Nat) (S : rb_S), B23 x4 kc ks S → rb_V p l e room_1 s m args below meth c A (lw_Z below args s) Z 7 23 [(0, .ref b), (1, .ref (Z.1 0)), (2, .ref (Z.1 23)), (3, .ref (Z.1 36)), (4, .int x4)] [] S kc ks) {x4 : Int32} {x5 : Int32} {x6 : Int32} {kc ks : Nat} {S : rb_S} (h : la_law_p_446 Ls xs B23 x4 x5 x6 kc ks S) : rb_V p l e room_1 s m args below meth c A (lw_Z below args s) Z 7 446 [(0, .ref b), (1, .ref (Z.1 0)), (2, .ref (Z.1 23)), (3, .ref (Z.1 36)), (4, .int x4), (5, .int x5), (6, .int x6)] [] S kc ks := by
  unfold la_law_p_446 at h
  refine rb_goto X 693 la_law_d446 (by decide) ?_
  refine rb_cut [0, 1, 2, 3, 4] (L' := [(0, .ref b), (1, .ref (Z.1 0)), (2, .ref (Z.1 23)), (3, .ref (Z.1 36)), (4, .int x4)]) rfl ?_
  exact la_law_k_693 X HX hlt hB23 h
def la_law_p_444 (Ls : Nat) (xs : Nat → Int32) (x4 : Int32) (x5 : Int32) (x6 : Int32) (kc ks : Nat) (S : rb_S) : Prop := False
theorem la_law_k_444 {b Ls : Nat} {xs : Nat → Int32}  (X : rb_X p s m args meth c A Z code 7 "RoomMakerLaw" ret) (HX : la_C s args A b Ls xs) (hlt : l.stackTraces = false)  {x4 : Int32} {x5 : Int32} {x6 : Int32} {kc ks : Nat} {S : rb_S} (h : la_law_p_444 Ls xs x4 x5 x6 kc ks S) : rb_V p l e room_1 s m args below meth c A (lw_Z below args s) Z 7 444 [(0, .ref b), (1, .ref (Z.1 0)), (2, .ref (Z.1 23)), (3, .ref (Z.1 36)), (4, .int x4), (5, .int x5), (6, .int x6)] [] S kc ks := by
  unfold la_law_p_444 at h
  refine rb_iconst X 0 la_law_d444 (by decide) ?_
  exact h.elim
def la_law_p_440 (Ls : Nat) (xs : Nat → Int32) (B23 : Int32 → Nat → Nat → rb_S → Prop) (x4 : Int32) (x5 : Int32) (x6 : Int32) (y0 : Int32) (y1 : Int32) (kc ks : Nat) (S : rb_S) : Prop := ((lg_cmp y1.toInt64 y0.toInt64) = 0 → la_law_p_446 Ls xs B23 x4 x5 x6 kc ks S) ∧ (¬ (lg_cmp y1.toInt64 y0.toInt64) = 0 → la_law_p_444 Ls xs x4 x5 x6 kc ks S)
theorem la_law_k_440 {b Ls : Nat} {xs : Nat → Int32} {B23 : Int32 → Nat → Nat → rb_S → Prop} (X : rb_X p s m args meth c A Z code 7 "RoomMakerLaw" ret) (HX : la_C s args A b Ls xs) (hlt : l.stackTraces = false) (hB23 : ∀ (x4 : Int32) (kc ks : Nat) (S : rb_S), B23 x4 kc ks S → rb_V p l e room_1 s m args below meth c A (lw_Z below args s) Z 7 23 [(0, .ref b), (1, .ref (Z.1 0)), (2, .ref (Z.1 23)), (3, .ref (Z.1 36)), (4, .int x4)] [] S kc ks) {x4 : Int32} {x5 : Int32} {x6 : Int32} {y0 : Int32} {y1 : Int32} {kc ks : Nat} {S : rb_S} (h : la_law_p_440 Ls xs B23 x4 x5 x6 y0 y1 kc ks S) : rb_V p l e room_1 s m args below meth c A (lw_Z below args s) Z 7 440 [(0, .ref b), (1, .ref (Z.1 0)), (2, .ref (Z.1 23)), (3, .ref (Z.1 36)), (4, .int x4), (5, .int x5), (6, .int x6)] [.long y0.toInt64, .long y1.toInt64] S kc ks := by
  unfold la_law_p_440 at h
  refine rb_lcmp X la_law_d440 ?_
  refine rb_if_eq X 446 la_law_d441 (by decide) (fun hc => ?_) (fun hc => ?_)
  · replace h := h.1 hc
    exact la_law_k_446 X HX hlt hB23 h
  · replace h := h.2 hc
    exact la_law_k_444 X HX hlt h
def la_law_p_420 (Ls : Nat) (xs : Nat → Int32) (x4 : Int32) (x5 : Int32) (x6 : Int32) (kc ks : Nat) (S : rb_S) : Prop := False
theorem la_law_k_420 {b Ls : Nat} {xs : Nat → Int32}  (X : rb_X p s m args meth c A Z code 7 "RoomMakerLaw" ret) (HX : la_C s args A b Ls xs) (hlt : l.stackTraces = false)  {x4 : Int32} {x5 : Int32} {x6 : Int32} {kc ks : Nat} {S : rb_S} (h : la_law_p_420 Ls xs x4 x5 x6 kc ks S) : rb_V p l e room_1 s m args below meth c A (lw_Z below args s) Z 7 420 [(0, .ref b), (1, .ref (Z.1 0)), (2, .ref (Z.1 23)), (3, .ref (Z.1 36)), (4, .int x4), (5, .int x5), (6, .int x6)] [] S kc ks := by
  unfold la_law_p_420 at h
  refine rb_iconst X 0 la_law_d420 (by decide) ?_
  exact h.elim
def la_law_p_502 (Ls : Nat) (xs : Nat → Int32) (B23 : Int32 → Nat → Nat → rb_S → Prop) (x4 : Int32) (x5 : Int32) (x6 : Int32) (kc ks : Nat) (S : rb_S) : Prop := la_law_p_693 Ls xs B23 x4 kc ks S
theorem la_law_k_502 {b Ls : Nat} {xs : Nat → Int32} {B23 : Int32 → Nat → Nat → rb_S → Prop} (X : rb_X p s m args meth c A Z code 7 "RoomMakerLaw" ret) (HX : la_C s args A b Ls xs) (hlt : l.stackTraces = false) (hB23 : ∀ (x4 : Int32) (kc ks : Nat) (S : rb_S), B23 x4 kc ks S → rb_V p l e room_1 s m args below meth c A (lw_Z below args s) Z 7 23 [(0, .ref b), (1, .ref (Z.1 0)), (2, .ref (Z.1 23)), (3, .ref (Z.1 36)), (4, .int x4)] [] S kc ks) {x4 : Int32} {x5 : Int32} {x6 : Int32} {kc ks : Nat} {S : rb_S} (h : la_law_p_502 Ls xs B23 x4 x5 x6 kc ks S) : rb_V p l e room_1 s m args below meth c A (lw_Z below args s) Z 7 502 [(0, .ref b), (1, .ref (Z.1 0)), (2, .ref (Z.1 23)), (3, .ref (Z.1 36)), (4, .int x4), (5, .int x5), (6, .int x6)] [] S kc ks := by
  unfold la_law_p_502 at h
  refine rb_goto X 693 la_law_d502 (by decide) ?_
  refine rb_cut [0, 1, 2, 3, 4] (L' := [(0, .ref b), (1, .ref (Z.1 0)), (2, .ref (Z.1 23)), (3, .ref (Z.1 36)), (4, .int x4)]) rfl ?_
  exact la_law_k_693 X HX hlt hB23 h
def la_law_p_500 (Ls : Nat) (xs : Nat → Int32) (x4 : Int32) (x5 : Int32) (x6 : Int32) (kc ks : Nat) (S : rb_S) : Prop := False
theorem la_law_k_500 {b Ls : Nat} {xs : Nat → Int32}  (X : rb_X p s m args meth c A Z code 7 "RoomMakerLaw" ret) (HX : la_C s args A b Ls xs) (hlt : l.stackTraces = false)  {x4 : Int32} {x5 : Int32} {x6 : Int32} {kc ks : Nat} {S : rb_S} (h : la_law_p_500 Ls xs x4 x5 x6 kc ks S) : rb_V p l e room_1 s m args below meth c A (lw_Z below args s) Z 7 500 [(0, .ref b), (1, .ref (Z.1 0)), (2, .ref (Z.1 23)), (3, .ref (Z.1 36)), (4, .int x4), (5, .int x5), (6, .int x6)] [] S kc ks := by
  unfold la_law_p_500 at h
  refine rb_iconst X 0 la_law_d500 (by decide) ?_
  exact h.elim
def la_law_p_483 (Ls : Nat) (xs : Nat → Int32) (x4 : Int32) (x5 : Int32) (x6 : Int32) (kc ks : Nat) (S : rb_S) : Prop := False
theorem la_law_k_483 {b Ls : Nat} {xs : Nat → Int32}  (X : rb_X p s m args meth c A Z code 7 "RoomMakerLaw" ret) (HX : la_C s args A b Ls xs) (hlt : l.stackTraces = false)  {x4 : Int32} {x5 : Int32} {x6 : Int32} {kc ks : Nat} {S : rb_S} (h : la_law_p_483 Ls xs x4 x5 x6 kc ks S) : rb_V p l e room_1 s m args below meth c A (lw_Z below args s) Z 7 483 [(0, .ref b), (1, .ref (Z.1 0)), (2, .ref (Z.1 23)), (3, .ref (Z.1 36)), (4, .int x4), (5, .int x5), (6, .int x6)] [] S kc ks := by
  unfold la_law_p_483 at h
  refine rb_iconst X 0 la_law_d483 (by decide) ?_
  exact h.elim
def la_law_p_516 (Ls : Nat) (xs : Nat → Int32) (x4 : Int32) (kc ks : Nat) (S : rb_S) : Prop := False
theorem la_law_k_516 {b Ls : Nat} {xs : Nat → Int32}  (X : rb_X p s m args meth c A Z code 7 "RoomMakerLaw" ret) (HX : la_C s args A b Ls xs) (hlt : l.stackTraces = false)  {x4 : Int32} {kc ks : Nat} {S : rb_S} (h : la_law_p_516 Ls xs x4 kc ks S) : rb_V p l e room_1 s m args below meth c A (lw_Z below args s) Z 7 516 [(0, .ref b), (1, .ref (Z.1 0)), (2, .ref (Z.1 23)), (3, .ref (Z.1 36)), (4, .int x4)] [] S kc ks := by
  unfold la_law_p_516 at h
  refine rb_iconst X 0 la_law_d516 (by decide) ?_
  exact h.elim
def la_law_p_571 (Ls : Nat) (xs : Nat → Int32) (B23 : Int32 → Nat → Nat → rb_S → Prop) (x4 : Int32) (x5 : Int32) (x6 : Int32) (kc ks : Nat) (S : rb_S) : Prop := la_law_p_693 Ls xs B23 x4 kc ks S
theorem la_law_k_571 {b Ls : Nat} {xs : Nat → Int32} {B23 : Int32 → Nat → Nat → rb_S → Prop} (X : rb_X p s m args meth c A Z code 7 "RoomMakerLaw" ret) (HX : la_C s args A b Ls xs) (hlt : l.stackTraces = false) (hB23 : ∀ (x4 : Int32) (kc ks : Nat) (S : rb_S), B23 x4 kc ks S → rb_V p l e room_1 s m args below meth c A (lw_Z below args s) Z 7 23 [(0, .ref b), (1, .ref (Z.1 0)), (2, .ref (Z.1 23)), (3, .ref (Z.1 36)), (4, .int x4)] [] S kc ks) {x4 : Int32} {x5 : Int32} {x6 : Int32} {kc ks : Nat} {S : rb_S} (h : la_law_p_571 Ls xs B23 x4 x5 x6 kc ks S) : rb_V p l e room_1 s m args below meth c A (lw_Z below args s) Z 7 571 [(0, .ref b), (1, .ref (Z.1 0)), (2, .ref (Z.1 23)), (3, .ref (Z.1 36)), (4, .int x4), (5, .int x5), (6, .int x6)] [] S kc ks := by
  unfold la_law_p_571 at h
  refine rb_goto X 693 la_law_d571 (by decide) ?_
  refine rb_cut [0, 1, 2, 3, 4] (L' := [(0, .ref b), (1, .ref (Z.1 0)), (2, .ref (Z.1 23)), (3, .ref (Z.1 36)), (4, .int x4)]) rfl ?_
  exact la_law_k_693 X HX hlt hB23 h
def la_law_p_569 (Ls : Nat) (xs : Nat → Int32) (x4 : Int32) (x5 : Int32) (x6 : Int32) (kc ks : Nat) (S : rb_S) : Prop := False
theorem la_law_k_569 {b Ls : Nat} {xs : Nat → Int32}  (X : rb_X p s m args meth c A Z code 7 "RoomMakerLaw" ret) (HX : la_C s args A b Ls xs) (hlt : l.stackTraces = false)  {x4 : Int32} {x5 : Int32} {x6 : Int32} {kc ks : Nat} {S : rb_S} (h : la_law_p_569 Ls xs x4 x5 x6 kc ks S) : rb_V p l e room_1 s m args below meth c A (lw_Z below args s) Z 7 569 [(0, .ref b), (1, .ref (Z.1 0)), (2, .ref (Z.1 23)), (3, .ref (Z.1 36)), (4, .int x4), (5, .int x5), (6, .int x6)] [] S kc ks := by
  unfold la_law_p_569 at h
  refine rb_iconst X 0 la_law_d569 (by decide) ?_
  exact h.elim
def la_law_p_552 (Ls : Nat) (xs : Nat → Int32) (x4 : Int32) (x5 : Int32) (x6 : Int32) (kc ks : Nat) (S : rb_S) : Prop := False
theorem la_law_k_552 {b Ls : Nat} {xs : Nat → Int32}  (X : rb_X p s m args meth c A Z code 7 "RoomMakerLaw" ret) (HX : la_C s args A b Ls xs) (hlt : l.stackTraces = false)  {x4 : Int32} {x5 : Int32} {x6 : Int32} {kc ks : Nat} {S : rb_S} (h : la_law_p_552 Ls xs x4 x5 x6 kc ks S) : rb_V p l e room_1 s m args below meth c A (lw_Z below args s) Z 7 552 [(0, .ref b), (1, .ref (Z.1 0)), (2, .ref (Z.1 23)), (3, .ref (Z.1 36)), (4, .int x4), (5, .int x5), (6, .int x6)] [] S kc ks := by
  unfold la_law_p_552 at h
  refine rb_iconst X 0 la_law_d552 (by decide) ?_
  exact h.elim
def la_law_p_585 (Ls : Nat) (xs : Nat → Int32) (x4 : Int32) (kc ks : Nat) (S : rb_S) : Prop := False
theorem la_law_k_585 {b Ls : Nat} {xs : Nat → Int32}  (X : rb_X p s m args meth c A Z code 7 "RoomMakerLaw" ret) (HX : la_C s args A b Ls xs) (hlt : l.stackTraces = false)  {x4 : Int32} {kc ks : Nat} {S : rb_S} (h : la_law_p_585 Ls xs x4 kc ks S) : rb_V p l e room_1 s m args below meth c A (lw_Z below args s) Z 7 585 [(0, .ref b), (1, .ref (Z.1 0)), (2, .ref (Z.1 23)), (3, .ref (Z.1 36)), (4, .int x4)] [] S kc ks := by
  unfold la_law_p_585 at h
  refine rb_iconst X 0 la_law_d585 (by decide) ?_
  exact h.elim
def la_law_p_640 (Ls : Nat) (xs : Nat → Int32) (B23 : Int32 → Nat → Nat → rb_S → Prop) (x4 : Int32) (x5 : Int32) (x6 : Int32) (kc ks : Nat) (S : rb_S) : Prop := la_law_p_693 Ls xs B23 x4 kc ks S
theorem la_law_k_640 {b Ls : Nat} {xs : Nat → Int32} {B23 : Int32 → Nat → Nat → rb_S → Prop} (X : rb_X p s m args meth c A Z code 7 "RoomMakerLaw" ret) (HX : la_C s args A b Ls xs) (hlt : l.stackTraces = false) (hB23 : ∀ (x4 : Int32) (kc ks : Nat) (S : rb_S), B23 x4 kc ks S → rb_V p l e room_1 s m args below meth c A (lw_Z below args s) Z 7 23 [(0, .ref b), (1, .ref (Z.1 0)), (2, .ref (Z.1 23)), (3, .ref (Z.1 36)), (4, .int x4)] [] S kc ks) {x4 : Int32} {x5 : Int32} {x6 : Int32} {kc ks : Nat} {S : rb_S} (h : la_law_p_640 Ls xs B23 x4 x5 x6 kc ks S) : rb_V p l e room_1 s m args below meth c A (lw_Z below args s) Z 7 640 [(0, .ref b), (1, .ref (Z.1 0)), (2, .ref (Z.1 23)), (3, .ref (Z.1 36)), (4, .int x4), (5, .int x5), (6, .int x6)] [] S kc ks := by
  unfold la_law_p_640 at h
  refine rb_goto X 693 la_law_d640 (by decide) ?_
  refine rb_cut [0, 1, 2, 3, 4] (L' := [(0, .ref b), (1, .ref (Z.1 0)), (2, .ref (Z.1 23)), (3, .ref (Z.1 36)), (4, .int x4)]) rfl ?_
  exact la_law_k_693 X HX hlt hB23 h
def la_law_p_638 (Ls : Nat) (xs : Nat → Int32) (x4 : Int32) (x5 : Int32) (x6 : Int32) (kc ks : Nat) (S : rb_S) : Prop := False
theorem la_law_k_638 {b Ls : Nat} {xs : Nat → Int32}  (X : rb_X p s m args meth c A Z code 7 "RoomMakerLaw" ret) (HX : la_C s args A b Ls xs) (hlt : l.stackTraces = false)  {x4 : Int32} {x5 : Int32} {x6 : Int32} {kc ks : Nat} {S : rb_S} (h : la_law_p_638 Ls xs x4 x5 x6 kc ks S) : rb_V p l e room_1 s m args below meth c A (lw_Z below args s) Z 7 638 [(0, .ref b), (1, .ref (Z.1 0)), (2, .ref (Z.1 23)), (3, .ref (Z.1 36)), (4, .int x4), (5, .int x5), (6, .int x6)] [] S kc ks := by
  unfold la_law_p_638 at h
  refine rb_iconst X 0 la_law_d638 (by decide) ?_
  exact h.elim
def la_law_p_621 (Ls : Nat) (xs : Nat → Int32) (x4 : Int32) (x5 : Int32) (x6 : Int32) (kc ks : Nat) (S : rb_S) : Prop := False
theorem la_law_k_621 {b Ls : Nat} {xs : Nat → Int32}  (X : rb_X p s m args meth c A Z code 7 "RoomMakerLaw" ret) (HX : la_C s args A b Ls xs) (hlt : l.stackTraces = false)  {x4 : Int32} {x5 : Int32} {x6 : Int32} {kc ks : Nat} {S : rb_S} (h : la_law_p_621 Ls xs x4 x5 x6 kc ks S) : rb_V p l e room_1 s m args below meth c A (lw_Z below args s) Z 7 621 [(0, .ref b), (1, .ref (Z.1 0)), (2, .ref (Z.1 23)), (3, .ref (Z.1 36)), (4, .int x4), (5, .int x5), (6, .int x6)] [] S kc ks := by
  unfold la_law_p_621 at h
  refine rb_iconst X 0 la_law_d621 (by decide) ?_
  exact h.elim
def la_law_p_666 (Ls : Nat) (xs : Nat → Int32) (x4 : Int32) (kc ks : Nat) (S : rb_S) : Prop := False
theorem la_law_k_666 {b Ls : Nat} {xs : Nat → Int32}  (X : rb_X p s m args meth c A Z code 7 "RoomMakerLaw" ret) (HX : la_C s args A b Ls xs) (hlt : l.stackTraces = false)  {x4 : Int32} {kc ks : Nat} {S : rb_S} (h : la_law_p_666 Ls xs x4 kc ks S) : rb_V p l e room_1 s m args below meth c A (lw_Z below args s) Z 7 666 [(0, .ref b), (1, .ref (Z.1 0)), (2, .ref (Z.1 23)), (3, .ref (Z.1 36)), (4, .int x4)] [] S kc ks := by
  unfold la_law_p_666 at h
  refine rb_iconst X 0 la_law_d666 (by decide) ?_
  exact h.elim
def la_law_p_691 (Ls : Nat) (xs : Nat → Int32) (x4 : Int32) (kc ks : Nat) (S : rb_S) : Prop := False
theorem la_law_k_691 {b Ls : Nat} {xs : Nat → Int32}  (X : rb_X p s m args meth c A Z code 7 "RoomMakerLaw" ret) (HX : la_C s args A b Ls xs) (hlt : l.stackTraces = false)  {x4 : Int32} {kc ks : Nat} {S : rb_S} (h : la_law_p_691 Ls xs x4 kc ks S) : rb_V p l e room_1 s m args below meth c A (lw_Z below args s) Z 7 691 [(0, .ref b), (1, .ref (Z.1 0)), (2, .ref (Z.1 23)), (3, .ref (Z.1 36)), (4, .int x4)] [] S kc ks := by
  unfold la_law_p_691 at h
  refine rb_iconst X 0 la_law_d691 (by decide) ?_
  exact h.elim
def la_law_p_23 (Ls : Nat) (xs : Nat → Int32) : Nat → Int32 → Nat → Nat → rb_S → Prop
  | 0, _, _, _, _ => False
  | n23 + 1, x4, kc, ks, S => (((Int32.ofNat Ls) - 5) < x4 → la_law_p_699 Ls xs x4 kc ks S) ∧ (¬ ((Int32.ofNat Ls) - 5) < x4 → vp_in x4 Ls ∧ ((((xs x4.toNatClampNeg) &&& 15) = 0 → vp_in (x4 + 1) Ls ∧ (vp_in (x4 + 2) Ls ∧ (vp_in (x4 + 3) Ls ∧ (vp_in (x4 + 4) Ls ∧ ((kc + 1 ≤ 1072 ∧ ks + 6 ≤ 11935) ∧ la_put_p_0 (fun r130 S130 => vp_in (x4 + 1) Ls ∧ (vp_in (x4 + 2) Ls ∧ (vp_in (x4 + 3) Ls ∧ (vp_in (x4 + 4) Ls ∧ ((kc + 1 ≤ 1072 ∧ ks + 6 ≤ 11935) ∧ mo_put_p_0 (fun r160 S160 => (kc + 1 ≤ 1072 ∧ ks + 6 ≤ 11935) ∧ mo_thrown_p_0 (fun r166 S166 => (r166 = r130 → (¬ r130 = 0 → la_law_p_193 Ls xs (fun a0 kc ks T => la_law_p_23 Ls xs n23 a0 kc ks T) x4 r130 r160 (kc + 1) (ks + 6) S166) ∧ (r130 = 0 → ((lg_cmp (S166 36 0).toInt64 r160.toInt64) = 0 → la_law_p_193 Ls xs (fun a0 kc ks T => la_law_p_23 Ls xs n23 a0 kc ks T) x4 r130 r160 (kc + 1) (ks + 6) S166) ∧ (¬ (lg_cmp (S166 36 0).toInt64 r160.toInt64) = 0 → la_law_p_191 Ls xs x4 r130 r160 (kc + 1) (ks + 6) S166))) ∧ (¬ r166 = r130 → la_law_p_174 Ls xs x4 r130 r160 (kc + 1) (ks + 6) S166)) S160) (xs (x4 + 1).toNatClampNeg) (xs (x4 + 2).toNatClampNeg) (xs (x4 + 3).toNatClampNeg) (xs (x4 + 4).toNatClampNeg) S130))))) (xs (x4 + 1).toNatClampNeg) (xs (x4 + 2).toNatClampNeg) (xs (x4 + 3).toNatClampNeg) (xs (x4 + 4).toNatClampNeg) S))))) ∧ (((xs x4.toNatClampNeg) &&& 15) = 1 → (kc ≤ 1072 ∧ ks ≤ 11935) ∧ rm_clear_p_0 (fun r197 S197 => (kc ≤ 1072 ∧ ks ≤ 11935) ∧ mo_clear_p_0 (fun r201 S201 => (r197 = r201 → la_law_p_693 Ls xs (fun a0 kc ks T => la_law_p_23 Ls xs n23 a0 kc ks T) x4 kc ks S201) ∧ (¬ r197 = r201 → la_law_p_207 Ls xs x4 kc ks S201)) S197) S) ∧ (((xs x4.toNatClampNeg) &&& 15) = 2 → vp_in (x4 + 1) Ls ∧ ((kc ≤ 1072 ∧ ks ≤ 11935) ∧ rm_give_p_0 (fun r216 S216 => vp_in (x4 + 1) Ls ∧ ((kc ≤ 1072 ∧ ks ≤ 11935) ∧ mo_give_p_0 (fun r226 S226 => (r216 = r226 → la_law_p_693 Ls xs (fun a0 kc ks T => la_law_p_23 Ls xs n23 a0 kc ks T) x4 kc ks S226) ∧ (¬ r216 = r226 → la_law_p_232 Ls xs x4 kc ks S226)) (xs (x4 + 1).toNatClampNeg) S216)) (xs (x4 + 1).toNatClampNeg) S)) ∧ (((xs x4.toNatClampNeg) &&& 15) = 3 → vp_in (x4 + 1) Ls ∧ ((kc + 1 ≤ 1072 ∧ ks + 6 ≤ 11935) ∧ la_build_p_0 (fun r242 S242 => vp_in (x4 + 1) Ls ∧ ((kc + 1 ≤ 1072 ∧ ks + 6 ≤ 11935) ∧ mo_build_p_0 (fun r254 S254 => (kc + 1 ≤ 1072 ∧ ks + 6 ≤ 11935) ∧ mo_thrown_p_0 (fun r260 S260 => (r260 = r242 → (¬ r242 = 0 → la_law_p_287 Ls xs (fun a0 kc ks T => la_law_p_23 Ls xs n23 a0 kc ks T) x4 r242 r254 (kc + 1) (ks + 6) S260) ∧ (r242 = 0 → ((lg_cmp (S260 36 0).toInt64 r254.toInt64) = 0 → la_law_p_287 Ls xs (fun a0 kc ks T => la_law_p_23 Ls xs n23 a0 kc ks T) x4 r242 r254 (kc + 1) (ks + 6) S260) ∧ (¬ (lg_cmp (S260 36 0).toInt64 r254.toInt64) = 0 → la_law_p_285 Ls xs x4 r242 r254 (kc + 1) (ks + 6) S260))) ∧ (¬ r260 = r242 → la_law_p_268 Ls xs x4 r242 r254 (kc + 1) (ks + 6) S260)) S254) (xs (x4 + 1).toNatClampNeg) S242)) (xs (x4 + 1).toNatClampNeg) S)) ∧ (((xs x4.toNatClampNeg) &&& 15) = 4 → vp_in (x4 + 1) Ls ∧ (vp_in (x4 + 2) Ls ∧ (((xs (x4 + 2).toNatClampNeg) = 0 → la_law_p_311 Ls xs (fun a0 kc ks T => la_law_p_23 Ls xs n23 a0 kc ks T) x4 0 (xs (x4 + 1).toNatClampNeg) kc ks S) ∧ (¬ (xs (x4 + 2).toNatClampNeg) = 0 → la_law_p_311 Ls xs (fun a0 kc ks T => la_law_p_23 Ls xs n23 a0 kc ks T) x4 1 (xs (x4 + 1).toNatClampNeg) kc ks S)))) ∧ (((xs x4.toNatClampNeg) &&& 15) = 5 → vp_in (x4 + 1) Ls ∧ (vp_in (x4 + 2) Ls ∧ ((kc + 1 ≤ 1072 ∧ ks + 6 ≤ 11935) ∧ la_lives_p_0 (fun r388 S388 => vp_in (x4 + 1) Ls ∧ (vp_in (x4 + 2) Ls ∧ ((kc + 1 ≤ 1072 ∧ ks + 6 ≤ 11935) ∧ mo_lives_p_0 (fun r406 S406 => (kc + 1 ≤ 1072 ∧ ks + 6 ≤ 11935) ∧ mo_thrown_p_0 (fun r412 S412 => (r412 = r388 → (¬ r388 = 0 → la_law_p_446 Ls xs (fun a0 kc ks T => la_law_p_23 Ls xs n23 a0 kc ks T) x4 r388 r406 (kc + 1) (ks + 6) S412) ∧ (r388 = 0 → (r406 = 0 → la_law_p_440 Ls xs (fun a0 kc ks T => la_law_p_23 Ls xs n23 a0 kc ks T) x4 r388 r406 0 (S412 36 0) (kc + 1) (ks + 6) S412) ∧ (¬ r406 = 0 → la_law_p_440 Ls xs (fun a0 kc ks T => la_law_p_23 Ls xs n23 a0 kc ks T) x4 r388 r406 1 (S412 36 0) (kc + 1) (ks + 6) S412))) ∧ (¬ r412 = r388 → la_law_p_420 Ls xs x4 r388 r406 (kc + 1) (ks + 6) S412)) S406) (xs (x4 + 1).toNatClampNeg) (xs (x4 + 2).toNatClampNeg) S388))) (xs (x4 + 1).toNatClampNeg) (xs (x4 + 2).toNatClampNeg) S))) ∧ (((xs x4.toNatClampNeg) &&& 15) = 6 → vp_in (x4 + 1) Ls ∧ ((kc + 1 ≤ 1072 ∧ ks + 6 ≤ 11935) ∧ la_place_p_0 (fun r457 S457 => vp_in (x4 + 1) Ls ∧ ((kc + 1 ≤ 1072 ∧ ks + 6 ≤ 11935) ∧ mo_place_p_0 (fun r469 S469 => (kc + 1 ≤ 1072 ∧ ks + 6 ≤ 11935) ∧ mo_thrown_p_0 (fun r475 S475 => (r475 = r457 → (¬ r457 = 0 → la_law_p_502 Ls xs (fun a0 kc ks T => la_law_p_23 Ls xs n23 a0 kc ks T) x4 r457 r469 (kc + 1) (ks + 6) S475) ∧ (r457 = 0 → ((lg_cmp (S475 36 0).toInt64 r469.toInt64) = 0 → la_law_p_502 Ls xs (fun a0 kc ks T => la_law_p_23 Ls xs n23 a0 kc ks T) x4 r457 r469 (kc + 1) (ks + 6) S475) ∧ (¬ (lg_cmp (S475 36 0).toInt64 r469.toInt64) = 0 → la_law_p_500 Ls xs x4 r457 r469 (kc + 1) (ks + 6) S475))) ∧ (¬ r475 = r457 → la_law_p_483 Ls xs x4 r457 r469 (kc + 1) (ks + 6) S475)) S469) (xs (x4 + 1).toNatClampNeg) S457)) (xs (x4 + 1).toNatClampNeg) S)) ∧ (((xs x4.toNatClampNeg) &&& 15) = 7 → (kc ≤ 1072 ∧ ks ≤ 11935) ∧ rm_pressure_p_0 (fun r506 S506 => (kc ≤ 1072 ∧ ks ≤ 11935) ∧ mo_pressure_p_0 (fun r510 S510 => (r506 = r510 → la_law_p_693 Ls xs (fun a0 kc ks T => la_law_p_23 Ls xs n23 a0 kc ks T) x4 kc ks S510) ∧ (¬ r506 = r510 → la_law_p_516 Ls xs x4 kc ks S510)) S506) S) ∧ (((xs x4.toNatClampNeg) &&& 15) = 8 → vp_in (x4 + 1) Ls ∧ ((kc + 1 ≤ 1072 ∧ ks + 6 ≤ 11935) ∧ la_run_p_0 (fun r526 S526 => vp_in (x4 + 1) Ls ∧ ((kc + 1 ≤ 1072 ∧ ks + 6 ≤ 11935) ∧ mo_run_p_0 (fun r538 S538 => (kc + 1 ≤ 1072 ∧ ks + 6 ≤ 11935) ∧ mo_thrown_p_0 (fun r544 S544 => (r544 = r526 → (¬ r526 = 0 → la_law_p_571 Ls xs (fun a0 kc ks T => la_law_p_23 Ls xs n23 a0 kc ks T) x4 r526 r538 (kc + 1) (ks + 6) S544) ∧ (r526 = 0 → ((lg_cmp (S544 36 0).toInt64 r538.toInt64) = 0 → la_law_p_571 Ls xs (fun a0 kc ks T => la_law_p_23 Ls xs n23 a0 kc ks T) x4 r526 r538 (kc + 1) (ks + 6) S544) ∧ (¬ (lg_cmp (S544 36 0).toInt64 r538.toInt64) = 0 → la_law_p_569 Ls xs x4 r526 r538 (kc + 1) (ks + 6) S544))) ∧ (¬ r544 = r526 → la_law_p_552 Ls xs x4 r526 r538 (kc + 1) (ks + 6) S544)) S538) (xs (x4 + 1).toNatClampNeg) S526)) (xs (x4 + 1).toNatClampNeg) S)) ∧ (((xs x4.toNatClampNeg) &&& 15) = 9 → (kc ≤ 1072 ∧ ks ≤ 11935) ∧ rm_restart_p_0 (fun r575 S575 => (kc ≤ 1072 ∧ ks ≤ 11935) ∧ mo_restart_p_0 (fun r579 S579 => (r575 = r579 → la_law_p_693 Ls xs (fun a0 kc ks T => la_law_p_23 Ls xs n23 a0 kc ks T) x4 kc ks S579) ∧ (¬ r575 = r579 → la_law_p_585 Ls xs x4 kc ks S579)) S575) S) ∧ (((xs x4.toNatClampNeg) &&& 15) = 10 → vp_in (x4 + 1) Ls ∧ ((kc + 1 ≤ 1072 ∧ ks + 6 ≤ 11935) ∧ la_value_p_0 (fun r595 S595 => vp_in (x4 + 1) Ls ∧ ((kc + 1 ≤ 1072 ∧ ks + 6 ≤ 11935) ∧ mo_value_p_0 (fun r607 S607 => (kc + 1 ≤ 1072 ∧ ks + 6 ≤ 11935) ∧ mo_thrown_p_0 (fun r613 S613 => (r613 = r595 → (¬ r595 = 0 → la_law_p_640 Ls xs (fun a0 kc ks T => la_law_p_23 Ls xs n23 a0 kc ks T) x4 r595 r607 (kc + 1) (ks + 6) S613) ∧ (r595 = 0 → ((lg_cmp (S613 36 0).toInt64 r607.toInt64) = 0 → la_law_p_640 Ls xs (fun a0 kc ks T => la_law_p_23 Ls xs n23 a0 kc ks T) x4 r595 r607 (kc + 1) (ks + 6) S613) ∧ (¬ (lg_cmp (S613 36 0).toInt64 r607.toInt64) = 0 → la_law_p_638 Ls xs x4 r595 r607 (kc + 1) (ks + 6) S613))) ∧ (¬ r613 = r595 → la_law_p_621 Ls xs x4 r595 r607 (kc + 1) (ks + 6) S613)) S607) (xs (x4 + 1).toNatClampNeg) S595)) (xs (x4 + 1).toNatClampNeg) S)) ∧ (((xs x4.toNatClampNeg) &&& 15) = 11 → vp_in (x4 + 1) Ls ∧ ((kc ≤ 1072 ∧ ks ≤ 11935) ∧ rm_output_p_0 (fun r650 S650 => vp_in (x4 + 1) Ls ∧ ((kc ≤ 1072 ∧ ks ≤ 11935) ∧ mo_output_p_0 (fun r660 S660 => (r650 = r660 → la_law_p_693 Ls xs (fun a0 kc ks T => la_law_p_23 Ls xs n23 a0 kc ks T) x4 kc ks S660) ∧ (¬ r650 = r660 → la_law_p_666 Ls xs x4 kc ks S660)) (xs (x4 + 1).toNatClampNeg) S650)) (xs (x4 + 1).toNatClampNeg) S)) ∧ (((xs x4.toNatClampNeg) &&& 15) = 12 → vp_in (x4 + 1) Ls ∧ ((kc ≤ 1072 ∧ ks ≤ 11935) ∧ rm_count_p_0 (fun r675 S675 => vp_in (x4 + 1) Ls ∧ ((kc ≤ 1072 ∧ ks ≤ 11935) ∧ mo_count_p_0 (fun r685 S685 => (r675 = r685 → la_law_p_693 Ls xs (fun a0 kc ks T => la_law_p_23 Ls xs n23 a0 kc ks T) x4 kc ks S685) ∧ (¬ r675 = r685 → la_law_p_691 Ls xs x4 kc ks S685)) (xs (x4 + 1).toNatClampNeg) S675)) (xs (x4 + 1).toNatClampNeg) S)) ∧ (((xs x4.toNatClampNeg) &&& 15).toInt < 0 ∨ 12 < ((xs x4.toNatClampNeg) &&& 15).toInt → la_law_p_693 Ls xs (fun a0 kc ks T => la_law_p_23 Ls xs n23 a0 kc ks T) x4 kc ks S)))
theorem la_law_k_23 {b Ls : Nat} {xs : Nat → Int32}  (X : rb_X p s m args meth c A Z code 7 "RoomMakerLaw" ret) (HX : la_C s args A b Ls xs) (hlt : l.stackTraces = false)  : ∀ (n : Nat) (x4 : Int32) (kc ks : Nat) (S : rb_S), la_law_p_23 Ls xs n x4 kc ks S → rb_V p l e room_1 s m args below meth c A (lw_Z below args s) Z 7 23 [(0, .ref b), (1, .ref (Z.1 0)), (2, .ref (Z.1 23)), (3, .ref (Z.1 36)), (4, .int x4)] [] S kc ks := by
  intro n
  induction n with
  | zero =>
    intro x4 kc ks S h
    exact (show False from h).elim
  | succ n ih =>
    intro x4 kc ks S h
    have hB23 := ih
    rw [la_law_p_23] at h
    refine rb_iload X 4 la_law_d23 4 rfl ?_
    refine rb_aload_n X 0 la_law_d25 rfl 0 rfl ?_
    refine la_slen X HX la_law_d26 ?_
    refine rb_iconst X 5 la_law_d27 (by decide) ?_
    refine rb_isub X la_law_d28 ?_
    refine rb_icmp_gt X 699 la_law_d29 (by decide) (fun hc => ?_) (fun hc => ?_)
    · replace h := h.1 hc
      exact la_law_k_699 X HX hlt h
    · replace h := h.2 hc
      refine rb_aload_n X 0 la_law_d32 rfl 0 rfl ?_
      refine rb_iload X 4 la_law_d33 4 rfl ?_
      obtain ⟨hin, h⟩ := h
      refine la_sld X HX la_law_d35 hin ?_
      refine rb_bipush X 15 la_law_d36 (by decide) ?_
      refine rb_iand X la_law_d38 ?_
      by_cases hc : ((xs x4.toNatClampNeg) &&& 15) = 0
      · refine rb_tabIn X 104 la_law_d39 (by rw [hc]; decide) (by rw [hc]; decide) (by rw [hc]; rfl) (by decide) ?_
        replace h := h.1 hc
        refine rb_aload_n X 1 la_law_d104 rfl 1 rfl ?_
        refine rb_aload_n X 0 la_law_d105 rfl 0 rfl ?_
        refine rb_iload X 4 la_law_d106 4 rfl ?_
        refine rb_iconst X 1 la_law_d108 (by decide) ?_
        refine rb_iadd X la_law_d109 ?_
        obtain ⟨hin, h⟩ := h
        refine la_sld X HX la_law_d110 hin ?_
        refine rb_aload_n X 0 la_law_d111 rfl 0 rfl ?_
        refine rb_iload X 4 la_law_d112 4 rfl ?_
        refine rb_iconst X 2 la_law_d114 (by decide) ?_
        refine rb_iadd X la_law_d115 ?_
        obtain ⟨hin, h⟩ := h
        refine la_sld X HX la_law_d116 hin ?_
        refine rb_aload_n X 0 la_law_d117 rfl 0 rfl ?_
        refine rb_iload X 4 la_law_d118 4 rfl ?_
        refine rb_iconst X 3 la_law_d120 (by decide) ?_
        refine rb_iadd X la_law_d121 ?_
        obtain ⟨hin, h⟩ := h
        refine la_sld X HX la_law_d122 hin ?_
        refine rb_aload_n X 0 la_law_d123 rfl 0 rfl ?_
        refine rb_iload X 4 la_law_d124 4 rfl ?_
        refine rb_iconst X 4 la_law_d126 (by decide) ?_
        refine rb_iadd X la_law_d127 ?_
        obtain ⟨hin, h⟩ := h
        refine la_sld X HX la_law_d128 hin ?_
        refine rb_aload_n X 3 la_law_d129 rfl 3 rfl ?_
        obtain ⟨hf, h⟩ := h
        refine rx_callSW (n := 6) (As := [.ref (Z.1 0), .int (xs (x4 + 1).toNatClampNeg), .int (xs (x4 + 2).toNatClampNeg), .int (xs (x4 + 3).toNatClampNeg), .int (xs (x4 + 4).toNatClampNeg), .ref (Z.1 36)]) (rest := []) X (la_put_c l Z hlt h) rw_252 rw_0 ⟨by decide, by decide⟩ (by decide +kernel) ⟨by decide, by decide⟩ rw_250 rw_251 rfl rfl (Nat.le_of_ble_eq_true rfl) la_law_d130 hf (fun r130 S130 h => ?_)
        refine rb_istore X 5 [1, 2, 3, 4, 5, 0] (L' := [(0, .ref b), (1, .ref (Z.1 0)), (2, .ref (Z.1 23)), (3, .ref (Z.1 36)), (4, .int x4), (5, .int r130)]) la_law_d133 (by decide) rfl ?_
        refine rb_aload_n X 2 la_law_d135 rfl 2 rfl ?_
        refine rb_aload_n X 0 la_law_d136 rfl 0 rfl ?_
        refine rb_iload X 4 la_law_d137 4 rfl ?_
        refine rb_iconst X 1 la_law_d139 (by decide) ?_
        refine rb_iadd X la_law_d140 ?_
        obtain ⟨hin, h⟩ := h
        refine la_sld X HX la_law_d141 hin ?_
        refine rb_aload_n X 0 la_law_d142 rfl 0 rfl ?_
        refine rb_iload X 4 la_law_d143 4 rfl ?_
        refine rb_iconst X 2 la_law_d145 (by decide) ?_
        refine rb_iadd X la_law_d146 ?_
        obtain ⟨hin, h⟩ := h
        refine la_sld X HX la_law_d147 hin ?_
        refine rb_aload_n X 0 la_law_d148 rfl 0 rfl ?_
        refine rb_iload X 4 la_law_d149 4 rfl ?_
        refine rb_iconst X 3 la_law_d151 (by decide) ?_
        refine rb_iadd X la_law_d152 ?_
        obtain ⟨hin, h⟩ := h
        refine la_sld X HX la_law_d153 hin ?_
        refine rb_aload_n X 0 la_law_d154 rfl 0 rfl ?_
        refine rb_iload X 4 la_law_d155 4 rfl ?_
        refine rb_iconst X 4 la_law_d157 (by decide) ?_
        refine rb_iadd X la_law_d158 ?_
        obtain ⟨hin, h⟩ := h
        refine la_sld X HX la_law_d159 hin ?_
        obtain ⟨hf, h⟩ := h
        refine rb_callVi (As := [.int (xs (x4 + 1).toNatClampNeg), .int (xs (x4 + 2).toNatClampNeg), .int (xs (x4 + 3).toNatClampNeg), .int (xs (x4 + 4).toNatClampNeg)]) (rest := []) X (mo_put_c l Z h) mo_put_w ⟨by decide, by decide⟩ rw_634 rw_635 rw_636 (q0 := 23) rfl rfl rfl rfl (Nat.le_of_ble_eq_true rfl) la_law_d160 hf (fun r160 S160 h => ?_)
        refine rb_istore X 6 [1, 2, 3, 4, 5, 6, 0] (L' := [(0, .ref b), (1, .ref (Z.1 0)), (2, .ref (Z.1 23)), (3, .ref (Z.1 36)), (4, .int x4), (5, .int r130), (6, .int r160)]) la_law_d163 (by decide) rfl ?_
        refine rb_aload_n X 2 la_law_d165 rfl 2 rfl ?_
        obtain ⟨hf, h⟩ := h
        refine rb_callVi (As := []) (rest := []) X (mo_thrown_c l Z h) mo_thrown_w ⟨by decide, by decide⟩ rw_630 rw_631 rw_632 (q0 := 23) rfl rfl rfl rfl (Nat.le_of_ble_eq_true rfl) la_law_d166 hf (fun r166 S166 h => ?_)
        refine rb_iload X 5 la_law_d169 5 rfl ?_
        refine rb_icmp_eq X 176 la_law_d171 (by decide) (fun hc => ?_) (fun hc => ?_)
        · replace h := h.1 hc
          refine rb_iload X 5 la_law_d176 5 rfl ?_
          refine rb_if_ne X 193 la_law_d178 (by decide) (fun hc => ?_) (fun hc => ?_)
          · replace h := h.1 hc
            exact la_law_k_193 X HX hlt hB23 h
          · replace h := h.2 hc
            refine rb_aload_n X 3 la_law_d181 rfl 3 rfl ?_
            refine rb_iconst X 0 la_law_d182 (by decide) ?_
            refine rb_lald X la_law_d183 ?_
            refine rb_iload X 6 la_law_d184 6 rfl ?_
            refine rb_i2l X la_law_d186 ?_
            refine rb_lcmp X la_law_d187 ?_
            refine rb_if_eq X 193 la_law_d188 (by decide) (fun hc => ?_) (fun hc => ?_)
            · replace h := h.1 hc
              exact la_law_k_193 X HX hlt hB23 h
            · replace h := h.2 hc
              exact la_law_k_191 X HX hlt h
        · replace h := h.2 hc
          exact la_law_k_174 X HX hlt h
      replace h := h.2
      have hc0 := lv_neT (k := 0) (a := 0) hc (by decide)
      clear hc
      by_cases hc : ((xs x4.toNatClampNeg) &&& 15) = 1
      · refine rb_tabIn X 196 la_law_d39 (by rw [hc]; decide) (by rw [hc]; decide) (by rw [hc]; rfl) (by decide) ?_
        replace h := h.1 hc
        refine rb_aload_n X 1 la_law_d196 rfl 1 rfl ?_
        obtain ⟨hf, h⟩ := h
        refine rb_callVi (As := []) (rest := []) X (rm_clear_c l Z h) rm_clear_w ⟨by decide, by decide⟩ rw_188 rw_189 rw_190 (q0 := 0) rfl rfl rfl rfl (Nat.le_of_ble_eq_true rfl) la_law_d197 hf (fun r197 S197 h => ?_)
        refine rb_aload_n X 2 la_law_d200 rfl 2 rfl ?_
        obtain ⟨hf, h⟩ := h
        refine rb_callVi (As := []) (rest := [.int r197]) X (mo_clear_c l Z h) mo_clear_w ⟨by decide, by decide⟩ rw_651 rw_652 rw_653 (q0 := 23) rfl rfl rfl rfl (Nat.le_of_ble_eq_true rfl) la_law_d201 hf (fun r201 S201 h => ?_)
        refine rb_icmp_eq X 693 la_law_d204 (by decide) (fun hc => ?_) (fun hc => ?_)
        · replace h := h.1 hc
          exact la_law_k_693 X HX hlt hB23 h
        · replace h := h.2 hc
          exact la_law_k_207 X HX hlt h
      replace h := h.2
      have hc1 := lv_neT (k := 1) (a := 1) hc (by decide)
      clear hc
      by_cases hc : ((xs x4.toNatClampNeg) &&& 15) = 2
      · refine rb_tabIn X 209 la_law_d39 (by rw [hc]; decide) (by rw [hc]; decide) (by rw [hc]; rfl) (by decide) ?_
        replace h := h.1 hc
        refine rb_aload_n X 1 la_law_d209 rfl 1 rfl ?_
        refine rb_aload_n X 0 la_law_d210 rfl 0 rfl ?_
        refine rb_iload X 4 la_law_d211 4 rfl ?_
        refine rb_iconst X 1 la_law_d213 (by decide) ?_
        refine rb_iadd X la_law_d214 ?_
        obtain ⟨hin, h⟩ := h
        refine la_sld X HX la_law_d215 hin ?_
        obtain ⟨hf, h⟩ := h
        refine rb_callVi (As := [.int (xs (x4 + 1).toNatClampNeg)]) (rest := []) X (rm_give_c l Z h) rm_give_w ⟨by decide, by decide⟩ rw_196 rw_197 rw_198 (q0 := 0) rfl rfl rfl rfl (Nat.le_of_ble_eq_true rfl) la_law_d216 hf (fun r216 S216 h => ?_)
        refine rb_aload_n X 2 la_law_d219 rfl 2 rfl ?_
        refine rb_aload_n X 0 la_law_d220 rfl 0 rfl ?_
        refine rb_iload X 4 la_law_d221 4 rfl ?_
        refine rb_iconst X 1 la_law_d223 (by decide) ?_
        refine rb_iadd X la_law_d224 ?_
        obtain ⟨hin, h⟩ := h
        refine la_sld X HX la_law_d225 hin ?_
        obtain ⟨hf, h⟩ := h
        refine rb_callVi (As := [.int (xs (x4 + 1).toNatClampNeg)]) (rest := [.int r216]) X (mo_give_c l Z h) mo_give_w ⟨by decide, by decide⟩ rw_655 rw_656 rw_657 (q0 := 23) rfl rfl rfl rfl (Nat.le_of_ble_eq_true rfl) la_law_d226 hf (fun r226 S226 h => ?_)
        refine rb_icmp_eq X 693 la_law_d229 (by decide) (fun hc => ?_) (fun hc => ?_)
        · replace h := h.1 hc
          exact la_law_k_693 X HX hlt hB23 h
        · replace h := h.2 hc
          exact la_law_k_232 X HX hlt h
      replace h := h.2
      have hc2 := lv_neT (k := 2) (a := 2) hc (by decide)
      clear hc
      by_cases hc : ((xs x4.toNatClampNeg) &&& 15) = 3
      · refine rb_tabIn X 234 la_law_d39 (by rw [hc]; decide) (by rw [hc]; decide) (by rw [hc]; rfl) (by decide) ?_
        replace h := h.1 hc
        refine rb_aload_n X 1 la_law_d234 rfl 1 rfl ?_
        refine rb_aload_n X 0 la_law_d235 rfl 0 rfl ?_
        refine rb_iload X 4 la_law_d236 4 rfl ?_
        refine rb_iconst X 1 la_law_d238 (by decide) ?_
        refine rb_iadd X la_law_d239 ?_
        obtain ⟨hin, h⟩ := h
        refine la_sld X HX la_law_d240 hin ?_
        refine rb_aload_n X 3 la_law_d241 rfl 3 rfl ?_
        obtain ⟨hf, h⟩ := h
        refine rx_callSW (n := 3) (As := [.ref (Z.1 0), .int (xs (x4 + 1).toNatClampNeg), .ref (Z.1 36)]) (rest := []) X (la_build_c l Z hlt h) rw_347 rw_0 ⟨by decide, by decide⟩ (by decide +kernel) ⟨by decide, by decide⟩ rw_345 rw_346 rfl rfl (Nat.le_of_ble_eq_true rfl) la_law_d242 hf (fun r242 S242 h => ?_)
        refine rb_istore X 5 [1, 2, 3, 4, 5, 0] (L' := [(0, .ref b), (1, .ref (Z.1 0)), (2, .ref (Z.1 23)), (3, .ref (Z.1 36)), (4, .int x4), (5, .int r242)]) la_law_d245 (by decide) rfl ?_
        refine rb_aload_n X 2 la_law_d247 rfl 2 rfl ?_
        refine rb_aload_n X 0 la_law_d248 rfl 0 rfl ?_
        refine rb_iload X 4 la_law_d249 4 rfl ?_
        refine rb_iconst X 1 la_law_d251 (by decide) ?_
        refine rb_iadd X la_law_d252 ?_
        obtain ⟨hin, h⟩ := h
        refine la_sld X HX la_law_d253 hin ?_
        obtain ⟨hf, h⟩ := h
        refine rb_callVi (As := [.int (xs (x4 + 1).toNatClampNeg)]) (rest := []) X (mo_build_c l Z h) mo_build_w ⟨by decide, by decide⟩ rw_659 rw_660 rw_661 (q0 := 23) rfl rfl rfl rfl (Nat.le_of_ble_eq_true rfl) la_law_d254 hf (fun r254 S254 h => ?_)
        refine rb_istore X 6 [1, 2, 3, 4, 5, 6, 0] (L' := [(0, .ref b), (1, .ref (Z.1 0)), (2, .ref (Z.1 23)), (3, .ref (Z.1 36)), (4, .int x4), (5, .int r242), (6, .int r254)]) la_law_d257 (by decide) rfl ?_
        refine rb_aload_n X 2 la_law_d259 rfl 2 rfl ?_
        obtain ⟨hf, h⟩ := h
        refine rb_callVi (As := []) (rest := []) X (mo_thrown_c l Z h) mo_thrown_w ⟨by decide, by decide⟩ rw_630 rw_631 rw_632 (q0 := 23) rfl rfl rfl rfl (Nat.le_of_ble_eq_true rfl) la_law_d260 hf (fun r260 S260 h => ?_)
        refine rb_iload X 5 la_law_d263 5 rfl ?_
        refine rb_icmp_eq X 270 la_law_d265 (by decide) (fun hc => ?_) (fun hc => ?_)
        · replace h := h.1 hc
          refine rb_iload X 5 la_law_d270 5 rfl ?_
          refine rb_if_ne X 287 la_law_d272 (by decide) (fun hc => ?_) (fun hc => ?_)
          · replace h := h.1 hc
            exact la_law_k_287 X HX hlt hB23 h
          · replace h := h.2 hc
            refine rb_aload_n X 3 la_law_d275 rfl 3 rfl ?_
            refine rb_iconst X 0 la_law_d276 (by decide) ?_
            refine rb_lald X la_law_d277 ?_
            refine rb_iload X 6 la_law_d278 6 rfl ?_
            refine rb_i2l X la_law_d280 ?_
            refine rb_lcmp X la_law_d281 ?_
            refine rb_if_eq X 287 la_law_d282 (by decide) (fun hc => ?_) (fun hc => ?_)
            · replace h := h.1 hc
              exact la_law_k_287 X HX hlt hB23 h
            · replace h := h.2 hc
              exact la_law_k_285 X HX hlt h
        · replace h := h.2 hc
          exact la_law_k_268 X HX hlt h
      replace h := h.2
      have hc3 := lv_neT (k := 3) (a := 3) hc (by decide)
      clear hc
      by_cases hc : ((xs x4.toNatClampNeg) &&& 15) = 4
      · refine rb_tabIn X 290 la_law_d39 (by rw [hc]; decide) (by rw [hc]; decide) (by rw [hc]; rfl) (by decide) ?_
        replace h := h.1 hc
        refine rb_aload_n X 1 la_law_d290 rfl 1 rfl ?_
        refine rb_aload_n X 0 la_law_d291 rfl 0 rfl ?_
        refine rb_iload X 4 la_law_d292 4 rfl ?_
        refine rb_iconst X 1 la_law_d294 (by decide) ?_
        refine rb_iadd X la_law_d295 ?_
        obtain ⟨hin, h⟩ := h
        refine la_sld X HX la_law_d296 hin ?_
        refine rb_aload_n X 0 la_law_d297 rfl 0 rfl ?_
        refine rb_iload X 4 la_law_d298 4 rfl ?_
        refine rb_iconst X 2 la_law_d300 (by decide) ?_
        refine rb_iadd X la_law_d301 ?_
        obtain ⟨hin, h⟩ := h
        refine la_sld X HX la_law_d302 hin ?_
        refine rb_if_eq X 310 la_law_d303 (by decide) (fun hc => ?_) (fun hc => ?_)
        · replace h := h.1 hc
          refine rb_iconst X 0 la_law_d310 (by decide) ?_
          exact la_law_k_311 X HX hlt hB23 h
        · replace h := h.2 hc
          refine rb_iconst X 1 la_law_d306 (by decide) ?_
          refine rb_goto X 311 la_law_d307 (by decide) ?_
          exact la_law_k_311 X HX hlt hB23 h
      replace h := h.2
      have hc4 := lv_neT (k := 4) (a := 4) hc (by decide)
      clear hc
      by_cases hc : ((xs x4.toNatClampNeg) &&& 15) = 5
      · refine rb_tabIn X 374 la_law_d39 (by rw [hc]; decide) (by rw [hc]; decide) (by rw [hc]; rfl) (by decide) ?_
        replace h := h.1 hc
        refine rb_aload_n X 1 la_law_d374 rfl 1 rfl ?_
        refine rb_aload_n X 0 la_law_d375 rfl 0 rfl ?_
        refine rb_iload X 4 la_law_d376 4 rfl ?_
        refine rb_iconst X 1 la_law_d378 (by decide) ?_
        refine rb_iadd X la_law_d379 ?_
        obtain ⟨hin, h⟩ := h
        refine la_sld X HX la_law_d380 hin ?_
        refine rb_aload_n X 0 la_law_d381 rfl 0 rfl ?_
        refine rb_iload X 4 la_law_d382 4 rfl ?_
        refine rb_iconst X 2 la_law_d384 (by decide) ?_
        refine rb_iadd X la_law_d385 ?_
        obtain ⟨hin, h⟩ := h
        refine la_sld X HX la_law_d386 hin ?_
        refine rb_aload_n X 3 la_law_d387 rfl 3 rfl ?_
        obtain ⟨hf, h⟩ := h
        refine rx_callSW (n := 4) (As := [.ref (Z.1 0), .int (xs (x4 + 1).toNatClampNeg), .int (xs (x4 + 2).toNatClampNeg), .ref (Z.1 36)]) (rest := []) X (la_lives_c l Z hlt h) rw_481 rw_0 ⟨by decide, by decide⟩ (by decide +kernel) ⟨by decide, by decide⟩ rw_479 rw_480 rfl rfl (Nat.le_of_ble_eq_true rfl) la_law_d388 hf (fun r388 S388 h => ?_)
        refine rb_istore X 5 [1, 2, 3, 4, 5, 0] (L' := [(0, .ref b), (1, .ref (Z.1 0)), (2, .ref (Z.1 23)), (3, .ref (Z.1 36)), (4, .int x4), (5, .int r388)]) la_law_d391 (by decide) rfl ?_
        refine rb_aload_n X 2 la_law_d393 rfl 2 rfl ?_
        refine rb_aload_n X 0 la_law_d394 rfl 0 rfl ?_
        refine rb_iload X 4 la_law_d395 4 rfl ?_
        refine rb_iconst X 1 la_law_d397 (by decide) ?_
        refine rb_iadd X la_law_d398 ?_
        obtain ⟨hin, h⟩ := h
        refine la_sld X HX la_law_d399 hin ?_
        refine rb_aload_n X 0 la_law_d400 rfl 0 rfl ?_
        refine rb_iload X 4 la_law_d401 4 rfl ?_
        refine rb_iconst X 2 la_law_d403 (by decide) ?_
        refine rb_iadd X la_law_d404 ?_
        obtain ⟨hin, h⟩ := h
        refine la_sld X HX la_law_d405 hin ?_
        obtain ⟨hf, h⟩ := h
        refine rb_callVi (As := [.int (xs (x4 + 1).toNatClampNeg), .int (xs (x4 + 2).toNatClampNeg)]) (rest := []) X (mo_lives_c l Z h) mo_lives_w ⟨by decide, by decide⟩ rw_711 rw_712 rw_713 (q0 := 23) rfl rfl rfl rfl (Nat.le_of_ble_eq_true rfl) la_law_d406 hf (fun r406 S406 h => ?_)
        refine rb_istore X 6 [1, 2, 3, 4, 5, 6, 0] (L' := [(0, .ref b), (1, .ref (Z.1 0)), (2, .ref (Z.1 23)), (3, .ref (Z.1 36)), (4, .int x4), (5, .int r388), (6, .int r406)]) la_law_d409 (by decide) rfl ?_
        refine rb_aload_n X 2 la_law_d411 rfl 2 rfl ?_
        obtain ⟨hf, h⟩ := h
        refine rb_callVi (As := []) (rest := []) X (mo_thrown_c l Z h) mo_thrown_w ⟨by decide, by decide⟩ rw_630 rw_631 rw_632 (q0 := 23) rfl rfl rfl rfl (Nat.le_of_ble_eq_true rfl) la_law_d412 hf (fun r412 S412 h => ?_)
        refine rb_iload X 5 la_law_d415 5 rfl ?_
        refine rb_icmp_eq X 422 la_law_d417 (by decide) (fun hc => ?_) (fun hc => ?_)
        · replace h := h.1 hc
          refine rb_iload X 5 la_law_d422 5 rfl ?_
          refine rb_if_ne X 446 la_law_d424 (by decide) (fun hc => ?_) (fun hc => ?_)
          · replace h := h.1 hc
            exact la_law_k_446 X HX hlt hB23 h
          · replace h := h.2 hc
            refine rb_aload_n X 3 la_law_d427 rfl 3 rfl ?_
            refine rb_iconst X 0 la_law_d428 (by decide) ?_
            refine rb_lald X la_law_d429 ?_
            refine rb_iload X 6 la_law_d430 6 rfl ?_
            refine rb_if_eq X 439 la_law_d432 (by decide) (fun hc => ?_) (fun hc => ?_)
            · replace h := h.1 hc
              refine rb_lconst X (0 : Int32).toInt64 la_law_d439 (by decide) ?_
              exact la_law_k_440 X HX hlt hB23 h
            · replace h := h.2 hc
              refine rb_lconst X (1 : Int32).toInt64 la_law_d435 (by decide) ?_
              refine rb_goto X 440 la_law_d436 (by decide) ?_
              exact la_law_k_440 X HX hlt hB23 h
        · replace h := h.2 hc
          exact la_law_k_420 X HX hlt h
      replace h := h.2
      have hc5 := lv_neT (k := 5) (a := 5) hc (by decide)
      clear hc
      by_cases hc : ((xs x4.toNatClampNeg) &&& 15) = 6
      · refine rb_tabIn X 449 la_law_d39 (by rw [hc]; decide) (by rw [hc]; decide) (by rw [hc]; rfl) (by decide) ?_
        replace h := h.1 hc
        refine rb_aload_n X 1 la_law_d449 rfl 1 rfl ?_
        refine rb_aload_n X 0 la_law_d450 rfl 0 rfl ?_
        refine rb_iload X 4 la_law_d451 4 rfl ?_
        refine rb_iconst X 1 la_law_d453 (by decide) ?_
        refine rb_iadd X la_law_d454 ?_
        obtain ⟨hin, h⟩ := h
        refine la_sld X HX la_law_d455 hin ?_
        refine rb_aload_n X 3 la_law_d456 rfl 3 rfl ?_
        obtain ⟨hf, h⟩ := h
        refine rx_callSW (n := 3) (As := [.ref (Z.1 0), .int (xs (x4 + 1).toNatClampNeg), .ref (Z.1 36)]) (rest := []) X (la_place_c l Z hlt h) rw_489 rw_0 ⟨by decide, by decide⟩ (by decide +kernel) ⟨by decide, by decide⟩ rw_487 rw_488 rfl rfl (Nat.le_of_ble_eq_true rfl) la_law_d457 hf (fun r457 S457 h => ?_)
        refine rb_istore X 5 [1, 2, 3, 4, 5, 0] (L' := [(0, .ref b), (1, .ref (Z.1 0)), (2, .ref (Z.1 23)), (3, .ref (Z.1 36)), (4, .int x4), (5, .int r457)]) la_law_d460 (by decide) rfl ?_
        refine rb_aload_n X 2 la_law_d462 rfl 2 rfl ?_
        refine rb_aload_n X 0 la_law_d463 rfl 0 rfl ?_
        refine rb_iload X 4 la_law_d464 4 rfl ?_
        refine rb_iconst X 1 la_law_d466 (by decide) ?_
        refine rb_iadd X la_law_d467 ?_
        obtain ⟨hin, h⟩ := h
        refine la_sld X HX la_law_d468 hin ?_
        obtain ⟨hf, h⟩ := h
        refine rb_callVi (As := [.int (xs (x4 + 1).toNatClampNeg)]) (rest := []) X (mo_place_c l Z h) mo_place_w ⟨by decide, by decide⟩ rw_715 rw_716 rw_717 (q0 := 23) rfl rfl rfl rfl (Nat.le_of_ble_eq_true rfl) la_law_d469 hf (fun r469 S469 h => ?_)
        refine rb_istore X 6 [1, 2, 3, 4, 5, 6, 0] (L' := [(0, .ref b), (1, .ref (Z.1 0)), (2, .ref (Z.1 23)), (3, .ref (Z.1 36)), (4, .int x4), (5, .int r457), (6, .int r469)]) la_law_d472 (by decide) rfl ?_
        refine rb_aload_n X 2 la_law_d474 rfl 2 rfl ?_
        obtain ⟨hf, h⟩ := h
        refine rb_callVi (As := []) (rest := []) X (mo_thrown_c l Z h) mo_thrown_w ⟨by decide, by decide⟩ rw_630 rw_631 rw_632 (q0 := 23) rfl rfl rfl rfl (Nat.le_of_ble_eq_true rfl) la_law_d475 hf (fun r475 S475 h => ?_)
        refine rb_iload X 5 la_law_d478 5 rfl ?_
        refine rb_icmp_eq X 485 la_law_d480 (by decide) (fun hc => ?_) (fun hc => ?_)
        · replace h := h.1 hc
          refine rb_iload X 5 la_law_d485 5 rfl ?_
          refine rb_if_ne X 502 la_law_d487 (by decide) (fun hc => ?_) (fun hc => ?_)
          · replace h := h.1 hc
            exact la_law_k_502 X HX hlt hB23 h
          · replace h := h.2 hc
            refine rb_aload_n X 3 la_law_d490 rfl 3 rfl ?_
            refine rb_iconst X 0 la_law_d491 (by decide) ?_
            refine rb_lald X la_law_d492 ?_
            refine rb_iload X 6 la_law_d493 6 rfl ?_
            refine rb_i2l X la_law_d495 ?_
            refine rb_lcmp X la_law_d496 ?_
            refine rb_if_eq X 502 la_law_d497 (by decide) (fun hc => ?_) (fun hc => ?_)
            · replace h := h.1 hc
              exact la_law_k_502 X HX hlt hB23 h
            · replace h := h.2 hc
              exact la_law_k_500 X HX hlt h
        · replace h := h.2 hc
          exact la_law_k_483 X HX hlt h
      replace h := h.2
      have hc6 := lv_neT (k := 6) (a := 6) hc (by decide)
      clear hc
      by_cases hc : ((xs x4.toNatClampNeg) &&& 15) = 7
      · refine rb_tabIn X 505 la_law_d39 (by rw [hc]; decide) (by rw [hc]; decide) (by rw [hc]; rfl) (by decide) ?_
        replace h := h.1 hc
        refine rb_aload_n X 1 la_law_d505 rfl 1 rfl ?_
        obtain ⟨hf, h⟩ := h
        refine rb_callVi (As := []) (rest := []) X (rm_pressure_c l Z h) rm_pressure_w ⟨by decide, by decide⟩ rw_204 rw_205 rw_206 (q0 := 0) rfl rfl rfl rfl (Nat.le_of_ble_eq_true rfl) la_law_d506 hf (fun r506 S506 h => ?_)
        refine rb_aload_n X 2 la_law_d509 rfl 2 rfl ?_
        obtain ⟨hf, h⟩ := h
        refine rb_callVi (As := []) (rest := [.int r506]) X (mo_pressure_c l Z h) mo_pressure_w ⟨by decide, by decide⟩ rw_719 rw_720 rw_721 (q0 := 23) rfl rfl rfl rfl (Nat.le_of_ble_eq_true rfl) la_law_d510 hf (fun r510 S510 h => ?_)
        refine rb_icmp_eq X 693 la_law_d513 (by decide) (fun hc => ?_) (fun hc => ?_)
        · replace h := h.1 hc
          exact la_law_k_693 X HX hlt hB23 h
        · replace h := h.2 hc
          exact la_law_k_516 X HX hlt h
      replace h := h.2
      have hc7 := lv_neT (k := 7) (a := 7) hc (by decide)
      clear hc
      by_cases hc : ((xs x4.toNatClampNeg) &&& 15) = 8
      · refine rb_tabIn X 518 la_law_d39 (by rw [hc]; decide) (by rw [hc]; decide) (by rw [hc]; rfl) (by decide) ?_
        replace h := h.1 hc
        refine rb_aload_n X 1 la_law_d518 rfl 1 rfl ?_
        refine rb_aload_n X 0 la_law_d519 rfl 0 rfl ?_
        refine rb_iload X 4 la_law_d520 4 rfl ?_
        refine rb_iconst X 1 la_law_d522 (by decide) ?_
        refine rb_iadd X la_law_d523 ?_
        obtain ⟨hin, h⟩ := h
        refine la_sld X HX la_law_d524 hin ?_
        refine rb_aload_n X 3 la_law_d525 rfl 3 rfl ?_
        obtain ⟨hf, h⟩ := h
        refine rx_callSW (n := 3) (As := [.ref (Z.1 0), .int (xs (x4 + 1).toNatClampNeg), .ref (Z.1 36)]) (rest := []) X (la_run_c l Z hlt h) rw_496 rw_0 ⟨by decide, by decide⟩ (by decide +kernel) ⟨by decide, by decide⟩ rw_494 rw_495 rfl rfl (Nat.le_of_ble_eq_true rfl) la_law_d526 hf (fun r526 S526 h => ?_)
        refine rb_istore X 5 [1, 2, 3, 4, 5, 0] (L' := [(0, .ref b), (1, .ref (Z.1 0)), (2, .ref (Z.1 23)), (3, .ref (Z.1 36)), (4, .int x4), (5, .int r526)]) la_law_d529 (by decide) rfl ?_
        refine rb_aload_n X 2 la_law_d531 rfl 2 rfl ?_
        refine rb_aload_n X 0 la_law_d532 rfl 0 rfl ?_
        refine rb_iload X 4 la_law_d533 4 rfl ?_
        refine rb_iconst X 1 la_law_d535 (by decide) ?_
        refine rb_iadd X la_law_d536 ?_
        obtain ⟨hin, h⟩ := h
        refine la_sld X HX la_law_d537 hin ?_
        obtain ⟨hf, h⟩ := h
        refine rb_callVi (As := [.int (xs (x4 + 1).toNatClampNeg)]) (rest := []) X (mo_run_c l Z h) mo_run_w ⟨by decide, by decide⟩ rw_723 rw_724 rw_725 (q0 := 23) rfl rfl rfl rfl (Nat.le_of_ble_eq_true rfl) la_law_d538 hf (fun r538 S538 h => ?_)
        refine rb_istore X 6 [1, 2, 3, 4, 5, 6, 0] (L' := [(0, .ref b), (1, .ref (Z.1 0)), (2, .ref (Z.1 23)), (3, .ref (Z.1 36)), (4, .int x4), (5, .int r526), (6, .int r538)]) la_law_d541 (by decide) rfl ?_
        refine rb_aload_n X 2 la_law_d543 rfl 2 rfl ?_
        obtain ⟨hf, h⟩ := h
        refine rb_callVi (As := []) (rest := []) X (mo_thrown_c l Z h) mo_thrown_w ⟨by decide, by decide⟩ rw_630 rw_631 rw_632 (q0 := 23) rfl rfl rfl rfl (Nat.le_of_ble_eq_true rfl) la_law_d544 hf (fun r544 S544 h => ?_)
        refine rb_iload X 5 la_law_d547 5 rfl ?_
        refine rb_icmp_eq X 554 la_law_d549 (by decide) (fun hc => ?_) (fun hc => ?_)
        · replace h := h.1 hc
          refine rb_iload X 5 la_law_d554 5 rfl ?_
          refine rb_if_ne X 571 la_law_d556 (by decide) (fun hc => ?_) (fun hc => ?_)
          · replace h := h.1 hc
            exact la_law_k_571 X HX hlt hB23 h
          · replace h := h.2 hc
            refine rb_aload_n X 3 la_law_d559 rfl 3 rfl ?_
            refine rb_iconst X 0 la_law_d560 (by decide) ?_
            refine rb_lald X la_law_d561 ?_
            refine rb_iload X 6 la_law_d562 6 rfl ?_
            refine rb_i2l X la_law_d564 ?_
            refine rb_lcmp X la_law_d565 ?_
            refine rb_if_eq X 571 la_law_d566 (by decide) (fun hc => ?_) (fun hc => ?_)
            · replace h := h.1 hc
              exact la_law_k_571 X HX hlt hB23 h
            · replace h := h.2 hc
              exact la_law_k_569 X HX hlt h
        · replace h := h.2 hc
          exact la_law_k_552 X HX hlt h
      replace h := h.2
      have hc8 := lv_neT (k := 8) (a := 8) hc (by decide)
      clear hc
      by_cases hc : ((xs x4.toNatClampNeg) &&& 15) = 9
      · refine rb_tabIn X 574 la_law_d39 (by rw [hc]; decide) (by rw [hc]; decide) (by rw [hc]; rfl) (by decide) ?_
        replace h := h.1 hc
        refine rb_aload_n X 1 la_law_d574 rfl 1 rfl ?_
        obtain ⟨hf, h⟩ := h
        refine rb_callVi (As := []) (rest := []) X (rm_restart_c l Z h) rm_restart_w ⟨by decide, by decide⟩ rw_219 rw_220 rw_221 (q0 := 0) rfl rfl rfl rfl (Nat.le_of_ble_eq_true rfl) la_law_d575 hf (fun r575 S575 h => ?_)
        refine rb_aload_n X 2 la_law_d578 rfl 2 rfl ?_
        obtain ⟨hf, h⟩ := h
        refine rb_callVi (As := []) (rest := [.int r575]) X (mo_restart_c l Z h) mo_restart_w ⟨by decide, by decide⟩ rw_751 rw_752 rw_753 (q0 := 23) rfl rfl rfl rfl (Nat.le_of_ble_eq_true rfl) la_law_d579 hf (fun r579 S579 h => ?_)
        refine rb_icmp_eq X 693 la_law_d582 (by decide) (fun hc => ?_) (fun hc => ?_)
        · replace h := h.1 hc
          exact la_law_k_693 X HX hlt hB23 h
        · replace h := h.2 hc
          exact la_law_k_585 X HX hlt h
      replace h := h.2
      have hc9 := lv_neT (k := 9) (a := 9) hc (by decide)
      clear hc
      by_cases hc : ((xs x4.toNatClampNeg) &&& 15) = 10
      · refine rb_tabIn X 587 la_law_d39 (by rw [hc]; decide) (by rw [hc]; decide) (by rw [hc]; rfl) (by decide) ?_
        replace h := h.1 hc
        refine rb_aload_n X 1 la_law_d587 rfl 1 rfl ?_
        refine rb_aload_n X 0 la_law_d588 rfl 0 rfl ?_
        refine rb_iload X 4 la_law_d589 4 rfl ?_
        refine rb_iconst X 1 la_law_d591 (by decide) ?_
        refine rb_iadd X la_law_d592 ?_
        obtain ⟨hin, h⟩ := h
        refine la_sld X HX la_law_d593 hin ?_
        refine rb_aload_n X 3 la_law_d594 rfl 3 rfl ?_
        obtain ⟨hf, h⟩ := h
        refine rx_callSW (n := 3) (As := [.ref (Z.1 0), .int (xs (x4 + 1).toNatClampNeg), .ref (Z.1 36)]) (rest := []) X (la_value_c l Z hlt h) rw_542 rw_0 ⟨by decide, by decide⟩ (by decide +kernel) ⟨by decide, by decide⟩ rw_540 rw_541 rfl rfl (Nat.le_of_ble_eq_true rfl) la_law_d595 hf (fun r595 S595 h => ?_)
        refine rb_istore X 5 [1, 2, 3, 4, 5, 0] (L' := [(0, .ref b), (1, .ref (Z.1 0)), (2, .ref (Z.1 23)), (3, .ref (Z.1 36)), (4, .int x4), (5, .int r595)]) la_law_d598 (by decide) rfl ?_
        refine rb_aload_n X 2 la_law_d600 rfl 2 rfl ?_
        refine rb_aload_n X 0 la_law_d601 rfl 0 rfl ?_
        refine rb_iload X 4 la_law_d602 4 rfl ?_
        refine rb_iconst X 1 la_law_d604 (by decide) ?_
        refine rb_iadd X la_law_d605 ?_
        obtain ⟨hin, h⟩ := h
        refine la_sld X HX la_law_d606 hin ?_
        obtain ⟨hf, h⟩ := h
        refine rb_callVi (As := [.int (xs (x4 + 1).toNatClampNeg)]) (rest := []) X (mo_value_c l Z h) mo_value_w ⟨by decide, by decide⟩ rw_755 rw_756 rw_757 (q0 := 23) rfl rfl rfl rfl (Nat.le_of_ble_eq_true rfl) la_law_d607 hf (fun r607 S607 h => ?_)
        refine rb_istore X 6 [1, 2, 3, 4, 5, 6, 0] (L' := [(0, .ref b), (1, .ref (Z.1 0)), (2, .ref (Z.1 23)), (3, .ref (Z.1 36)), (4, .int x4), (5, .int r595), (6, .int r607)]) la_law_d610 (by decide) rfl ?_
        refine rb_aload_n X 2 la_law_d612 rfl 2 rfl ?_
        obtain ⟨hf, h⟩ := h
        refine rb_callVi (As := []) (rest := []) X (mo_thrown_c l Z h) mo_thrown_w ⟨by decide, by decide⟩ rw_630 rw_631 rw_632 (q0 := 23) rfl rfl rfl rfl (Nat.le_of_ble_eq_true rfl) la_law_d613 hf (fun r613 S613 h => ?_)
        refine rb_iload X 5 la_law_d616 5 rfl ?_
        refine rb_icmp_eq X 623 la_law_d618 (by decide) (fun hc => ?_) (fun hc => ?_)
        · replace h := h.1 hc
          refine rb_iload X 5 la_law_d623 5 rfl ?_
          refine rb_if_ne X 640 la_law_d625 (by decide) (fun hc => ?_) (fun hc => ?_)
          · replace h := h.1 hc
            exact la_law_k_640 X HX hlt hB23 h
          · replace h := h.2 hc
            refine rb_aload_n X 3 la_law_d628 rfl 3 rfl ?_
            refine rb_iconst X 0 la_law_d629 (by decide) ?_
            refine rb_lald X la_law_d630 ?_
            refine rb_iload X 6 la_law_d631 6 rfl ?_
            refine rb_i2l X la_law_d633 ?_
            refine rb_lcmp X la_law_d634 ?_
            refine rb_if_eq X 640 la_law_d635 (by decide) (fun hc => ?_) (fun hc => ?_)
            · replace h := h.1 hc
              exact la_law_k_640 X HX hlt hB23 h
            · replace h := h.2 hc
              exact la_law_k_638 X HX hlt h
        · replace h := h.2 hc
          exact la_law_k_621 X HX hlt h
      replace h := h.2
      have hc10 := lv_neT (k := 10) (a := 10) hc (by decide)
      clear hc
      by_cases hc : ((xs x4.toNatClampNeg) &&& 15) = 11
      · refine rb_tabIn X 643 la_law_d39 (by rw [hc]; decide) (by rw [hc]; decide) (by rw [hc]; rfl) (by decide) ?_
        replace h := h.1 hc
        refine rb_aload_n X 1 la_law_d643 rfl 1 rfl ?_
        refine rb_aload_n X 0 la_law_d644 rfl 0 rfl ?_
        refine rb_iload X 4 la_law_d645 4 rfl ?_
        refine rb_iconst X 1 la_law_d647 (by decide) ?_
        refine rb_iadd X la_law_d648 ?_
        obtain ⟨hin, h⟩ := h
        refine la_sld X HX la_law_d649 hin ?_
        obtain ⟨hf, h⟩ := h
        refine rb_callVi (As := [.int (xs (x4 + 1).toNatClampNeg)]) (rest := []) X (rm_output_c l Z h) rm_output_w ⟨by decide, by decide⟩ rw_230 rw_231 rw_232 (q0 := 0) rfl rfl rfl rfl (Nat.le_of_ble_eq_true rfl) la_law_d650 hf (fun r650 S650 h => ?_)
        refine rb_aload_n X 2 la_law_d653 rfl 2 rfl ?_
        refine rb_aload_n X 0 la_law_d654 rfl 0 rfl ?_
        refine rb_iload X 4 la_law_d655 4 rfl ?_
        refine rb_iconst X 1 la_law_d657 (by decide) ?_
        refine rb_iadd X la_law_d658 ?_
        obtain ⟨hin, h⟩ := h
        refine la_sld X HX la_law_d659 hin ?_
        obtain ⟨hf, h⟩ := h
        refine rb_callVi (As := [.int (xs (x4 + 1).toNatClampNeg)]) (rest := [.int r650]) X (mo_output_c l Z h) mo_output_w ⟨by decide, by decide⟩ rw_759 rw_760 rw_761 (q0 := 23) rfl rfl rfl rfl (Nat.le_of_ble_eq_true rfl) la_law_d660 hf (fun r660 S660 h => ?_)
        refine rb_icmp_eq X 693 la_law_d663 (by decide) (fun hc => ?_) (fun hc => ?_)
        · replace h := h.1 hc
          exact la_law_k_693 X HX hlt hB23 h
        · replace h := h.2 hc
          exact la_law_k_666 X HX hlt h
      replace h := h.2
      have hc11 := lv_neT (k := 11) (a := 11) hc (by decide)
      clear hc
      by_cases hc : ((xs x4.toNatClampNeg) &&& 15) = 12
      · refine rb_tabIn X 668 la_law_d39 (by rw [hc]; decide) (by rw [hc]; decide) (by rw [hc]; rfl) (by decide) ?_
        replace h := h.1 hc
        refine rb_aload_n X 1 la_law_d668 rfl 1 rfl ?_
        refine rb_aload_n X 0 la_law_d669 rfl 0 rfl ?_
        refine rb_iload X 4 la_law_d670 4 rfl ?_
        refine rb_iconst X 1 la_law_d672 (by decide) ?_
        refine rb_iadd X la_law_d673 ?_
        obtain ⟨hin, h⟩ := h
        refine la_sld X HX la_law_d674 hin ?_
        obtain ⟨hf, h⟩ := h
        refine rb_callVi (As := [.int (xs (x4 + 1).toNatClampNeg)]) (rest := []) X (rm_count_c l Z h) rm_count_w ⟨by decide, by decide⟩ rw_238 rw_239 rw_240 (q0 := 0) rfl rfl rfl rfl (Nat.le_of_ble_eq_true rfl) la_law_d675 hf (fun r675 S675 h => ?_)
        refine rb_aload_n X 2 la_law_d678 rfl 2 rfl ?_
        refine rb_aload_n X 0 la_law_d679 rfl 0 rfl ?_
        refine rb_iload X 4 la_law_d680 4 rfl ?_
        refine rb_iconst X 1 la_law_d682 (by decide) ?_
        refine rb_iadd X la_law_d683 ?_
        obtain ⟨hin, h⟩ := h
        refine la_sld X HX la_law_d684 hin ?_
        obtain ⟨hf, h⟩ := h
        refine rb_callVi (As := [.int (xs (x4 + 1).toNatClampNeg)]) (rest := [.int r675]) X (mo_count_c l Z h) mo_count_w ⟨by decide, by decide⟩ rw_763 rw_764 rw_765 (q0 := 23) rfl rfl rfl rfl (Nat.le_of_ble_eq_true rfl) la_law_d685 hf (fun r685 S685 h => ?_)
        refine rb_icmp_eq X 693 la_law_d688 (by decide) (fun hc => ?_) (fun hc => ?_)
        · replace h := h.1 hc
          exact la_law_k_693 X HX hlt hB23 h
        · replace h := h.2 hc
          exact la_law_k_691 X HX hlt h
      replace h := h.2
      have hc12 := lv_neT (k := 12) (a := 12) hc (by decide)
      clear hc
      have hc : ((xs x4.toNatClampNeg) &&& 15).toInt < 0 ∨ 12 < ((xs x4.toNatClampNeg) &&& 15).toInt := by omega
      refine rb_tabOut X 693 la_law_d39 hc (by decide) ?_
      replace h := h hc
      exact la_law_k_693 X HX hlt hB23 h
end
