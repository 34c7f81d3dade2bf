/-! the law: one call of the script -/
def sc (xs : Nat → Int32) (x : Int) : Int := (xs x.toNat).toInt
theorem sc_in (xs : Nat → Int32) (x : Int) : inR (sc xs x) := ⟨by have := (xs x.toNat).le_toInt; unfold sc; omega, by have := (xs x.toNat).toInt_lt; unfold sc; omega⟩
theorem ssc_eq (xs : Nat → Int32) (x : Int) : xs x.toNat = iI (sc xs x) := (Int32.ofInt_toInt _).symm
def LC (p : Program) (l : Launch) (s : State) (m : MethodId) (meth : Method) (c : Code) (b L : Nat) (xs : Nat → Int32) (w : WP) : Prop :=
  Cx p s m #[Value.ref b] meth c code "MagnetPoemsLaw" ret 9 w ∧ l.stackTraces = false ∧ va_X b L xs s s.heap ∧ b < s.heap.size ∧ ¬ Aw w b ∧ L ≤ 2560 ∧ w.2.2.2 = s.heap.size
section QS
variable {p : Program} {l : Launch} {e : Env} {R : Room} {s : State} {m : MethodId} {args : Array Value} {below : List Frame} {meth : Method} {c : Code} {Qf : State → Prop} {w : WP} {k n nL pc : Nat} {lv : List (Nat × Value)} {st : List Value} {F : FF} {cc : ByteArray} {own : String} {ret : Option FieldType} {b L : Nat} {xs : Nat → Int32}
theorem q_widen {k' n' : Nat} (h1 : k ≤ k') (h2 : n ≤ n') (kk : Wq p l e R s m args below meth c Qf w k' n' nL pc lv st F) : Wq p l e R s m args below meth c Qf w k n nL pc lv st F :=
  fun H locs ls hH hS hl => W.widen (k := k') (n := n') h1 h2 (kk H locs ls hH hS hl)
theorem q_sld (C : Cx p s m args meth c cc own ret nL w) (hX : va_X b L xs s s.heap) (hbl : b < s.heap.size) (hbA : ¬ Aw w b) {x : Int} (hx : 0 ≤ x ∧ x < (L : Int)) (d : decode cc pc = .ok (.iaload, 1)) (kk : Wq p l e R s m args below meth c Qf w k n nL (pc + 1) lv (.int (iI (sc xs x)) :: st) F) (hL : L ≤ 2560 := by assumption) : Wq p l e R s m args below meth c Qf w k n nL pc lv (.int (iI x) :: .ref b :: st) F := by
  intro H locs ls hH hS hl
  refine va_sld C.1 C.2.1 hX hbl hbA hS (iI_in hx (by omega)) d ?_
  rw [iI_clamp ⟨by omega, by omega⟩, ssc_eq xs x]
  exact kk H locs ls hH hS hl
theorem q_slen (C : Cx p s m args meth c cc own ret nL w) (hX : va_X b L xs s s.heap) (hbl : b < s.heap.size) (hbA : ¬ Aw w b) (d : decode cc pc = .ok (.arraylength, 1)) (kk : Wq p l e R s m args below meth c Qf w k n nL (pc + 1) lv (.int (iI (L : Int)) :: st) F) : Wq p l e R s m args below meth c Qf w k n nL pc lv (.ref b :: st) F := by
  intro H locs ls hH hS hl
  refine va_slen C.1 C.2.1 hX hbl hbA hS d ?_
  rw [show Int32.ofNat L = iI (L : Int) from iI_nat L]
  exact kk H locs ls hH hS hl
theorem q_dstore {lv' : List (Nat × Value)} (C : Cx p s m args meth c cc own ret nL w) {i : Nat} {z : UInt64} (d : decode cc pc = .ok (.dstore i, 2)) (hn : i + 1 < nL) (hl' : (i, Value.double z) :: lv.filter (fun q => !(q.1 == i) && (!(q.1 == i + 1) && !(q.1 + 1 == i && q.2.category == 2))) = lv') (kk : Wq p l e R s m args below meth c Qf w k n nL (pc + 2) lv' st F) : Wq p l e R s m args below meth c Qf w k n nL pc lv (.double z :: st) F :=
  fun H locs ls hH hS hl => lv_dstore C.1 C.2.1 d hl hn hl' (fun ls' hl2 => kk H locs ls' hH hS hl2)
def a31 (x : Int) : Int := (iI x &&& iI 31).toInt
theorem a31_range (x : Int) : 0 ≤ a31 x ∧ a31 x ≤ 31 := by
  have h1 : (iI x &&& iI 31).toBitVec.toNat = (iI x).toBitVec.toNat % 2 ^ 5 := by
    rw [Int32.toBitVec_and, BitVec.toNat_and]
    exact Nat.and_two_pow_sub_one_eq_mod _ 5
  have h2 := BitVec.toInt_eq_toNat_cond (iI x &&& iI 31).toBitVec
  have h3 : a31 x = (iI x &&& iI 31).toBitVec.toInt := rfl
  rw [h3, h2, h1]
  have h4 : (iI x).toBitVec.toNat % 2 ^ 5 < 32 := Nat.mod_lt _ (by decide)
  rw [if_pos (by omega)]
  omega
theorem q_iand31 (C : Cx p s m args meth c cc own ret nL w) {x : Int} (d : decode cc pc = .ok (.iand, 1)) (kk : Wq p l e R s m args below meth c Qf w k n nL (pc + 1) lv (.int (iI (a31 x)) :: st) F) : Wq p l e R s m args below meth c Qf w k n nL pc lv (.int (iI 31) :: .int (iI x) :: st) F :=
  fun H locs ls hH hS hl => lv_iand C.1 C.2.1 d (by rw [show iI x &&& iI 31 = iI (a31 x) from (Int32.ofInt_toInt _).symm]; exact kk H locs ls hH hS hl)
end QS
theorem MI.kpL {F F1 : FF} {A : AS} (h : MI F A) (hF : ∀ k, 110 ≤ k → k ≠ 120 → F1 k = F k) : MI F1 A :=
  h.of ((hF 111 (by decide) (by decide)).trans h.r) (congrFun (hF 110 (by decide) (by decide)) 2) (congrFun (hF 110 (by decide) (by decide)) 7) (hF 112 (by decide) (by decide)) (hF 113 (by decide) (by decide)) (hF 114 (by decide) (by decide)) (hF 116 (by decide) (by decide))
theorem CI.kpM {F F1 : FF} {A : AS} (h : CI F A) (hF : FrM F F1) : CI F1 A := h.keep (fun k a _ _ => hF k (Or.inl a))
theorem law_step {F1 F2 : FF} {T Z z2 : Int} {N A : AS} (h1 : T = 0 ∧ F1 120 0 = wI Z ∧ CI F1 N ∨ T ≠ 0 ∧ CI F1 A) (h2 : (T = 0 ∧ z2 = Z ∧ MJ F1 F2 N 0) ∨ (T ≠ 0 ∧ MJ F1 F2 A T)) : F2 110 8 = T ∧ (T = 0 → F2 120 0 = wI Z ∧ z2 = Z) ∧ ∃ B, CI F2 B ∧ MI F2 B := by
  rcases h1 with ⟨a1, a2, a3⟩ | ⟨a1, a2⟩
  · rcases h2 with ⟨b1, b2, b3⟩ | ⟨b1, _⟩
    · exact ⟨b3.2.2.trans a1.symm, fun _ => ⟨(congrFun (b3.2.1 120 (by omega)) 0).trans a2, b2⟩, N, a3.kpM b3.2.1, b3.1⟩
    · exact absurd a1 b1
  · rcases h2 with ⟨b1, _⟩ | ⟨b1, b2⟩
    · exact absurd b1 a1
    · exact ⟨b2.2.2, fun h => absurd h a1, A, a2.kpM b2.2.1, b2.1⟩

theorem putT_r (A : AS) (x d y p : Int) : 0 ≤ putT A x d y p ∧ putT A x d y p ≤ 3 := by
  unfold putT
  repeat' split
  all_goals omega
theorem takeOffT_r (A : AS) (x : Int) : 0 ≤ takeOffT A x ∧ takeOffT A x ≤ 3 := by
  unfold takeOffT
  repeat' split
  all_goals omega
theorem moveT_r (A : AS) (x d y : Int) : 0 ≤ moveT A x d y ∧ moveT A x d y ≤ 3 := by
  unfold moveT
  repeat' split
  all_goals omega
theorem clearDoorT_r (A : AS) (d : Int) : 0 ≤ clearDoorT A d ∧ clearDoorT A d ≤ 3 := by
  unfold clearDoorT
  repeat' split
  all_goals omega
theorem borrowT_r (A : AS) (d y e g : Int) : 0 ≤ borrowT A d y e g ∧ borrowT A d y e g ≤ 3 := by
  unfold borrowT
  repeat' split
  all_goals omega
theorem bringBackT_r (A : AS) (d y : Int) : 0 ≤ bringBackT A d y ∧ bringBackT A d y ≤ 3 := by
  unfold bringBackT
  repeat' split
  all_goals omega
theorem sleepT_r (A : AS) (m : Int) : 0 ≤ sleepT A m ∧ sleepT A m ≤ 3 := by
  unfold sleepT
  repeat' split
  all_goals omega
theorem setT_r (A : AS) (k v : Int) : 0 ≤ setT A k v ∧ setT A k v ≤ 3 := by
  unfold setT
  repeat' split
  all_goals omega
theorem appendT_r (A : AS) (c : Int) : 0 ≤ appendT A c ∧ appendT A c ≤ 3 := by
  unfold appendT
  repeat' split
  all_goals omega
theorem loadT_r (A : AS) (d : Int) : 0 ≤ loadT A d ∧ loadT A d ≤ 3 := by
  unfold loadT
  repeat' split
  all_goals omega
theorem writeT_r (A : AS) (d : Int) : 0 ≤ writeT A d ∧ writeT A d ≤ 3 := by
  unfold writeT
  repeat' split
  all_goals omega
theorem keepT_r (A : AS) (k : Int) : 0 ≤ keepT A k ∧ keepT A k ≤ 3 := by
  unfold keepT
  repeat' split
  all_goals omega
theorem goBackT_r (A : AS) (k : Int) : 0 ≤ goBackT A k ∧ goBackT A k ≤ 3 := by
  unfold goBackT
  repeat' split
  all_goals omega
theorem undoT_r (A : AS) : 0 ≤ undoT A ∧ undoT A ≤ 3 := by
  unfold undoT
  repeat' split
  all_goals omega
theorem wordOfT_r (A : AS) (x k : Int) : 0 ≤ wordOfT A x k ∧ wordOfT A x k ≤ 3 := by
  unfold wordOfT
  repeat' split
  all_goals omega
theorem atT_r (A : AS) (d y p : Int) : 0 ≤ atT A d y p ∧ atT A d y p ≤ 3 := by
  unfold atT
  repeat' split
  all_goals omega
theorem lineOfT_r (A : AS) (d y k : Int) : 0 ≤ lineOfT A d y k ∧ lineOfT A d y k ≤ 3 := by
  unfold lineOfT
  repeat' split
  all_goals omega
theorem doorOfT_r (A : AS) (d k : Int) : 0 ≤ doorOfT A d k ∧ doorOfT A d k ≤ 3 := by
  unfold doorOfT
  repeat' split
  all_goals omega
theorem countT_r (A : AS) (k : Int) : 0 ≤ countT A k ∧ countT A k ≤ 3 := by
  unfold countT
  repeat' split
  all_goals omega
theorem settingT_r (A : AS) (k : Int) : 0 ≤ settingT A k ∧ settingT A k ≤ 3 := by
  unfold settingT
  repeat' split
  all_goals omega
theorem whyNotT_r (A : AS) (x d y p : Int) : 0 ≤ whyNotT A x d y p ∧ whyNotT A x d y p ≤ 3 := by
  unfold whyNotT
  repeat' split
  all_goals omega
theorem bestWordT_r (A : AS) (d y : Int) : 0 ≤ bestWordT A d y ∧ bestWordT A d y ≤ 3 := by
  unfold bestWordT
  repeat' split
  all_goals omega
theorem ifSleptT_r (A : AS) (m d : Int) : 0 ≤ ifSleptT A m d ∧ ifSleptT A m d ≤ 3 := by
  unfold ifSleptT
  repeat' split
  all_goals omega
section LAWC
variable {p : Program} {l : Launch} {e : Env} {s : State} {m : MethodId} {below : List Frame} {meth : Method} {c : Code} {w : WP} {b L : Nat} {xs : Nat → Int32} {Qf : State → Prop}

set_option maxRecDepth 100000 in
set_option maxHeartbeats 4000000 in
theorem law_0 (hC : LC p l s m meth c b L xs w) {i : Int} {k n : Nat} {F : FF} {A : AS} (hi : 0 ≤ i ∧ i + 5 ≤ (L : Int)) (hk : k + 1 ≤ 601024) (hn : n + 6 ≤ 7293034) (hA : CI F A) (hM : MI F A) (hnext : ∀ (B : AS) (G : FF), CI G B → MI G B → Wq p l e room_1 s m #[Value.ref b] below meth c Qf w (k + 1) (n + 6) 9 23 [(4, .int (iI (i + 5))), (3, .ref (adr w 120)), (2, .ref (adr w 110)), (1, .ref (adr w 0)), (0, .ref b)] [] G) : Wq p l e room_1 s m #[Value.ref b] below meth c Qf w k n 9 164 [(4, .int (iI i)), (3, .ref (adr w 120)), (2, .ref (adr w 110)), (1, .ref (adr w 0)), (0, .ref b)] [] F := by
  obtain ⟨C, hl, hX, hbl, hbA, hL, hwb⟩ := hC
  have hV := hA.v
  refine q_aload_n C 3 dL_law_164 rfl ?_
  refine q_aload_n C 4 dL_law_165 rfl ?_
  refine q_iload C 0 dL_law_166 rfl ?_
  refine q_iconst C 1 dL_law_168 ?_
  refine q_iadd C dL_law_169 ?_
  refine q_sld C hX hbl hbA ⟨by omega, by omega⟩ dL_law_170 ?_
  refine q_aload_n C 4 dL_law_171 rfl ?_
  refine q_iload C 0 dL_law_172 rfl ?_
  refine q_iconst C 2 dL_law_174 ?_
  refine q_iadd C dL_law_175 ?_
  refine q_sld C hX hbl hbA ⟨by omega, by omega⟩ dL_law_176 ?_
  refine q_aload_n C 4 dL_law_177 rfl ?_
  refine q_iload C 0 dL_law_178 rfl ?_
  refine q_iconst C 3 dL_law_180 ?_
  refine q_iadd C dL_law_181 ?_
  refine q_sld C hX hbl hbA ⟨by omega, by omega⟩ dL_law_182 ?_
  refine q_aload_n C 4 dL_law_183 rfl ?_
  refine q_iload C 0 dL_law_184 rfl ?_
  refine q_iconst C 4 dL_law_186 ?_
  refine q_iadd C dL_law_187 ?_
  refine q_sld C hX hbl hbA ⟨by omega, by omega⟩ dL_law_188 ?_
  refine q_aload_n C 1 dL_law_189 rfl ?_
  refine q_cW (q_runW (As := [.ref (adr w 0), .int (iI (sc xs (i + 1))), .int (iI (sc xs (i + 2))), .int (iI (sc xs (i + 3))), .int (iI (sc xs (i + 4))), .ref (adr w 120)]) (rest := []) C (k_L_put l hl hA (sc_in _ _) (sc_in _ _) (sc_in _ _) (sc_in _ _)) wd_465 wd_464 wd_76 wd_463 nd_L_put rfl (by decide) ⟨hk, hn⟩ rfl (Nat.le_of_ble_eq_true rfl) dL_law_190) (fun z F1 hp => ?_)
  obtain ⟨hz1, hN1, hF1⟩ := hp
  subst hz1
  have hM1 := hM.kpL hF1
  refine q_istore (lv' := [(5, .int (iI (putT A (sc xs (i + 1)) (sc xs (i + 2)) (sc xs (i + 3)) (sc xs (i + 4))))), (4, .int (iI i)), (3, .ref (adr w 120)), (2, .ref (adr w 110)), (1, .ref (adr w 0)), (0, .ref b)]) C dL_law_193 (by decide) rfl ?_
  refine q_aload_n C 3 dL_law_195 rfl ?_
  refine q_aload_n C 5 dL_law_196 rfl ?_
  refine q_iload C 1 dL_law_197 rfl ?_
  refine q_iconst C 1 dL_law_199 ?_
  refine q_iadd C dL_law_200 ?_
  refine q_sld C hX hbl hbA ⟨by omega, by omega⟩ dL_law_201 ?_
  refine q_aload_n C 5 dL_law_202 rfl ?_
  refine q_iload C 1 dL_law_203 rfl ?_
  refine q_iconst C 2 dL_law_205 ?_
  refine q_iadd C dL_law_206 ?_
  refine q_sld C hX hbl hbA ⟨by omega, by omega⟩ dL_law_207 ?_
  refine q_aload_n C 5 dL_law_208 rfl ?_
  refine q_iload C 1 dL_law_209 rfl ?_
  refine q_iconst C 3 dL_law_211 ?_
  refine q_iadd C dL_law_212 ?_
  refine q_sld C hX hbl hbA ⟨by omega, by omega⟩ dL_law_213 ?_
  refine q_aload_n C 5 dL_law_214 rfl ?_
  refine q_iload C 1 dL_law_215 rfl ?_
  refine q_iconst C 4 dL_law_217 ?_
  refine q_iadd C dL_law_218 ?_
  refine q_sld C hX hbl hbA ⟨by omega, by omega⟩ dL_law_219 ?_
  refine q_cI (q_runV (As := [.int (iI (sc xs (i + 1))), .int (iI (sc xs (i + 2))), .int (iI (sc xs (i + 3))), .int (iI (sc xs (i + 4)))]) (rest := []) C (k_X4_put l hM1 hV (sc_in _ _) (sc_in _ _) (sc_in _ _) (sc_in _ _)) kd110 (by decide) rfl wd_924 wd_922 wd_923 wd_81 wd_921 nd_X4_put rfl (by decide) ⟨hk, hn⟩ rfl (Nat.le_of_ble_eq_true rfl) dL_law_220) ?_
  rintro z2 F2 hp2
  obtain ⟨hth, hzz, B, hCB, hMB⟩ := law_step hN1 hp2
  refine q_istore (lv' := [(6, .int (iI z2)), (5, .int (iI (putT A (sc xs (i + 1)) (sc xs (i + 2)) (sc xs (i + 3)) (sc xs (i + 4))))), (4, .int (iI i)), (3, .ref (adr w 120)), (2, .ref (adr w 110)), (1, .ref (adr w 0)), (0, .ref b)]) C dL_law_223 (by decide) rfl ?_
  refine q_aload_n C 4 dL_law_225 rfl ?_
  refine q_cI (q_runV (As := []) (rest := []) C (k_X4_thrown l) kd110 (by decide) rfl wd_920 wd_918 wd_919 wd_81 wd_917 nd_X4_thrown rfl (by decide) ⟨hk, hn⟩ rfl (Nat.le_of_ble_eq_true rfl) dL_law_226) ?_
  rintro z3 F3 ⟨hz3, rfl⟩
  rw [hth] at hz3
  subst hz3
  have hTr := putT_r A (sc xs (i + 1)) (sc xs (i + 2)) (sc xs (i + 3)) (sc xs (i + 4))
  refine q_iload C 1 dL_law_229 rfl ?_
  refine q_icmp_eq C 236 dL_law_231 ⟨by omega, by omega⟩ ⟨by omega, by omega⟩ (by decide) (fun _ => ?_) (fun h => absurd rfl h)
  refine q_iload C 1 dL_law_236 rfl ?_
  refine q_if_ne C 253 dL_law_238 ⟨by omega, by omega⟩ (by decide) (fun h => ?_) (fun h => ?_)
  · refine q_goto C 1786 dL_law_253 (by decide) ?_
    refine q_iinc (lv' := [(4, .int (iI (i + 5))), (6, .int (iI z2)), (5, .int (iI (putT A (sc xs (i + 1)) (sc xs (i + 2)) (sc xs (i + 3)) (sc xs (i + 4))))), (3, .ref (adr w 120)), (2, .ref (adr w 110)), (1, .ref (adr w 0)), (0, .ref b)]) C 2 dL_law_1786 rfl (by decide) rfl ?_
    refine q_goto C 23 dL_law_1789 (by decide) ?_
    refine q_lv (lv' := [(4, .int (iI (i + 5))), (3, .ref (adr w 120)), (2, .ref (adr w 110)), (1, .ref (adr w 0)), (0, .ref b)]) [0, 3, 4, 5, 6] rfl ?_
    exact hnext B F2 hCB hMB
  · obtain ⟨e1, e2⟩ := hzz h
    refine q_aload_n C 3 dL_law_241 rfl ?_
    refine q_iconst C 0 dL_law_242 ?_
    refine q_lald C kd120 ⟨by decide, by rw [ln120]; decide⟩ dL_law_243 ?_
    rw [e1]
    refine q_iload C 0 dL_law_244 rfl ?_
    refine q_i2l C dL_law_246 ?_
    refine q_ltop (z' := wI (putZ A (sc xs (i + 1)) (sc xs (i + 2)) (sc xs (i + 3)) (sc xs (i + 4)))) (by rw [e2]; rfl) ?_
    refine q_lcmps (x := iL (wI _)) C dL_law_247 ?_
    refine q_if_eq C 253 dL_law_248 ⟨by decide, by decide⟩ (by decide) (fun _ => ?_) (fun h => absurd rfl h)
    refine q_goto C 1786 dL_law_253 (by decide) ?_
    refine q_iinc (lv' := [(4, .int (iI (i + 5))), (6, .int (iI z2)), (5, .int (iI (putT A (sc xs (i + 1)) (sc xs (i + 2)) (sc xs (i + 3)) (sc xs (i + 4))))), (3, .ref (adr w 120)), (2, .ref (adr w 110)), (1, .ref (adr w 0)), (0, .ref b)]) C 2 dL_law_1786 rfl (by decide) rfl ?_
    refine q_goto C 23 dL_law_1789 (by decide) ?_
    refine q_lv (lv' := [(4, .int (iI (i + 5))), (3, .ref (adr w 120)), (2, .ref (adr w 110)), (1, .ref (adr w 0)), (0, .ref b)]) [0, 3, 4, 5, 6] rfl ?_
    exact hnext B F2 hCB hMB

set_option maxRecDepth 100000 in
set_option maxHeartbeats 4000000 in
theorem law_1 (hC : LC p l s m meth c b L xs w) {i : Int} {k n : Nat} {F : FF} {A : AS} (hi : 0 ≤ i ∧ i + 5 ≤ (L : Int)) (hk : k + 1 ≤ 601024) (hn : n + 6 ≤ 7293034) (hA : CI F A) (hM : MI F A) (hnext : ∀ (B : AS) (G : FF), CI G B → MI G B → Wq p l e room_1 s m #[Value.ref b] below meth c Qf w (k + 1) (n + 6) 9 23 [(4, .int (iI (i + 5))), (3, .ref (adr w 120)), (2, .ref (adr w 110)), (1, .ref (adr w 0)), (0, .ref b)] [] G) : Wq p l e room_1 s m #[Value.ref b] below meth c Qf w k n 9 256 [(4, .int (iI i)), (3, .ref (adr w 120)), (2, .ref (adr w 110)), (1, .ref (adr w 0)), (0, .ref b)] [] F := by
  obtain ⟨C, hl, hX, hbl, hbA, hL, hwb⟩ := hC
  have hV := hA.v
  refine q_aload_n C 3 dL_law_256 rfl ?_
  refine q_aload_n C 4 dL_law_257 rfl ?_
  refine q_iload C 0 dL_law_258 rfl ?_
  refine q_iconst C 1 dL_law_260 ?_
  refine q_iadd C dL_law_261 ?_
  refine q_sld C hX hbl hbA ⟨by omega, by omega⟩ dL_law_262 ?_
  refine q_aload_n C 1 dL_law_263 rfl ?_
  refine q_cW (q_runW (As := [.ref (adr w 0), .int (iI (sc xs (i + 1))), .ref (adr w 120)]) (rest := []) C (k_L_takeOff l hl hA (sc_in _ _)) wd_593 wd_592 wd_76 wd_591 nd_L_takeOff rfl (by decide) ⟨hk, hn⟩ rfl (Nat.le_of_ble_eq_true rfl) dL_law_264) (fun z F1 hp => ?_)
  obtain ⟨hz1, hN1, hF1⟩ := hp
  subst hz1
  have hM1 := hM.kpL hF1
  refine q_istore (lv' := [(5, .int (iI (takeOffT A (sc xs (i + 1))))), (4, .int (iI i)), (3, .ref (adr w 120)), (2, .ref (adr w 110)), (1, .ref (adr w 0)), (0, .ref b)]) C dL_law_267 (by decide) rfl ?_
  refine q_aload_n C 3 dL_law_269 rfl ?_
  refine q_aload_n C 5 dL_law_270 rfl ?_
  refine q_iload C 1 dL_law_271 rfl ?_
  refine q_iconst C 1 dL_law_273 ?_
  refine q_iadd C dL_law_274 ?_
  refine q_sld C hX hbl hbA ⟨by omega, by omega⟩ dL_law_275 ?_
  refine q_cI (q_runV (As := [.int (iI (sc xs (i + 1)))]) (rest := []) C (k_X4_takeOff l hM1 hV (sc_in _ _)) kd110 (by decide) rfl wd_989 wd_987 wd_988 wd_81 wd_986 nd_X4_takeOff rfl (by decide) ⟨hk, hn⟩ rfl (Nat.le_of_ble_eq_true rfl) dL_law_276) ?_
  rintro z2 F2 hp2
  obtain ⟨hth, hzz, B, hCB, hMB⟩ := law_step hN1 hp2
  refine q_istore (lv' := [(6, .int (iI z2)), (5, .int (iI (takeOffT A (sc xs (i + 1))))), (4, .int (iI i)), (3, .ref (adr w 120)), (2, .ref (adr w 110)), (1, .ref (adr w 0)), (0, .ref b)]) C dL_law_279 (by decide) rfl ?_
  refine q_aload_n C 4 dL_law_281 rfl ?_
  refine q_cI (q_runV (As := []) (rest := []) C (k_X4_thrown l) kd110 (by decide) rfl wd_920 wd_918 wd_919 wd_81 wd_917 nd_X4_thrown rfl (by decide) ⟨hk, hn⟩ rfl (Nat.le_of_ble_eq_true rfl) dL_law_282) ?_
  rintro z3 F3 ⟨hz3, rfl⟩
  rw [hth] at hz3
  subst hz3
  have hTr := takeOffT_r A (sc xs (i + 1))
  refine q_iload C 1 dL_law_285 rfl ?_
  refine q_icmp_eq C 292 dL_law_287 ⟨by omega, by omega⟩ ⟨by omega, by omega⟩ (by decide) (fun _ => ?_) (fun h => absurd rfl h)
  refine q_iload C 1 dL_law_292 rfl ?_
  refine q_if_ne C 309 dL_law_294 ⟨by omega, by omega⟩ (by decide) (fun h => ?_) (fun h => ?_)
  · refine q_goto C 1786 dL_law_309 (by decide) ?_
    refine q_iinc (lv' := [(4, .int (iI (i + 5))), (6, .int (iI z2)), (5, .int (iI (takeOffT A (sc xs (i + 1))))), (3, .ref (adr w 120)), (2, .ref (adr w 110)), (1, .ref (adr w 0)), (0, .ref b)]) C 2 dL_law_1786 rfl (by decide) rfl ?_
    refine q_goto C 23 dL_law_1789 (by decide) ?_
    refine q_lv (lv' := [(4, .int (iI (i + 5))), (3, .ref (adr w 120)), (2, .ref (adr w 110)), (1, .ref (adr w 0)), (0, .ref b)]) [0, 3, 4, 5, 6] rfl ?_
    exact hnext B F2 hCB hMB
  · obtain ⟨e1, e2⟩ := hzz h
    refine q_aload_n C 3 dL_law_297 rfl ?_
    refine q_iconst C 0 dL_law_298 ?_
    refine q_lald C kd120 ⟨by decide, by rw [ln120]; decide⟩ dL_law_299 ?_
    rw [e1]
    refine q_iload C 0 dL_law_300 rfl ?_
    refine q_i2l C dL_law_302 ?_
    refine q_ltop (z' := wI (takeOffZ A (sc xs (i + 1)))) (by rw [e2]; rfl) ?_
    refine q_lcmps (x := iL (wI _)) C dL_law_303 ?_
    refine q_if_eq C 309 dL_law_304 ⟨by decide, by decide⟩ (by decide) (fun _ => ?_) (fun h => absurd rfl h)
    refine q_goto C 1786 dL_law_309 (by decide) ?_
    refine q_iinc (lv' := [(4, .int (iI (i + 5))), (6, .int (iI z2)), (5, .int (iI (takeOffT A (sc xs (i + 1))))), (3, .ref (adr w 120)), (2, .ref (adr w 110)), (1, .ref (adr w 0)), (0, .ref b)]) C 2 dL_law_1786 rfl (by decide) rfl ?_
    refine q_goto C 23 dL_law_1789 (by decide) ?_
    refine q_lv (lv' := [(4, .int (iI (i + 5))), (3, .ref (adr w 120)), (2, .ref (adr w 110)), (1, .ref (adr w 0)), (0, .ref b)]) [0, 3, 4, 5, 6] rfl ?_
    exact hnext B F2 hCB hMB

set_option maxRecDepth 100000 in
set_option maxHeartbeats 4000000 in
theorem law_2 (hC : LC p l s m meth c b L xs w) {i : Int} {k n : Nat} {F : FF} {A : AS} (hi : 0 ≤ i ∧ i + 5 ≤ (L : Int)) (hk : k + 1 ≤ 601024) (hn : n + 6 ≤ 7293034) (hA : CI F A) (hM : MI F A) (hnext : ∀ (B : AS) (G : FF), CI G B → MI G B → Wq p l e room_1 s m #[Value.ref b] below meth c Qf w (k + 1) (n + 6) 9 23 [(4, .int (iI (i + 5))), (3, .ref (adr w 120)), (2, .ref (adr w 110)), (1, .ref (adr w 0)), (0, .ref b)] [] G) : Wq p l e room_1 s m #[Value.ref b] below meth c Qf w k n 9 312 [(4, .int (iI i)), (3, .ref (adr w 120)), (2, .ref (adr w 110)), (1, .ref (adr w 0)), (0, .ref b)] [] F := by
  obtain ⟨C, hl, hX, hbl, hbA, hL, hwb⟩ := hC
  have hV := hA.v
  refine q_aload_n C 3 dL_law_312 rfl ?_
  refine q_aload_n C 4 dL_law_313 rfl ?_
  refine q_iload C 0 dL_law_314 rfl ?_
  refine q_iconst C 1 dL_law_316 ?_
  refine q_iadd C dL_law_317 ?_
  refine q_sld C hX hbl hbA ⟨by omega, by omega⟩ dL_law_318 ?_
  refine q_aload_n C 4 dL_law_319 rfl ?_
  refine q_iload C 0 dL_law_320 rfl ?_
  refine q_iconst C 2 dL_law_322 ?_
  refine q_iadd C dL_law_323 ?_
  refine q_sld C hX hbl hbA ⟨by omega, by omega⟩ dL_law_324 ?_
  refine q_aload_n C 4 dL_law_325 rfl ?_
  refine q_iload C 0 dL_law_326 rfl ?_
  refine q_iconst C 3 dL_law_328 ?_
  refine q_iadd C dL_law_329 ?_
  refine q_sld C hX hbl hbA ⟨by omega, by omega⟩ dL_law_330 ?_
  refine q_aload_n C 1 dL_law_331 rfl ?_
  refine q_cW (q_runW (As := [.ref (adr w 0), .int (iI (sc xs (i + 1))), .int (iI (sc xs (i + 2))), .int (iI (sc xs (i + 3))), .ref (adr w 120)]) (rest := []) C (k_L_move l hl hA (sc_in _ _) (sc_in _ _) (sc_in _ _)) wd_608 wd_607 wd_76 wd_606 nd_L_move rfl (by decide) ⟨hk, hn⟩ rfl (Nat.le_of_ble_eq_true rfl) dL_law_332) (fun z F1 hp => ?_)
  obtain ⟨hz1, hN1, hF1⟩ := hp
  subst hz1
  have hM1 := hM.kpL hF1
  refine q_istore (lv' := [(5, .int (iI (moveT A (sc xs (i + 1)) (sc xs (i + 2)) (sc xs (i + 3))))), (4, .int (iI i)), (3, .ref (adr w 120)), (2, .ref (adr w 110)), (1, .ref (adr w 0)), (0, .ref b)]) C dL_law_335 (by decide) rfl ?_
  refine q_aload_n C 3 dL_law_337 rfl ?_
  refine q_aload_n C 5 dL_law_338 rfl ?_
  refine q_iload C 1 dL_law_339 rfl ?_
  refine q_iconst C 1 dL_law_341 ?_
  refine q_iadd C dL_law_342 ?_
  refine q_sld C hX hbl hbA ⟨by omega, by omega⟩ dL_law_343 ?_
  refine q_aload_n C 5 dL_law_344 rfl ?_
  refine q_iload C 1 dL_law_345 rfl ?_
  refine q_iconst C 2 dL_law_347 ?_
  refine q_iadd C dL_law_348 ?_
  refine q_sld C hX hbl hbA ⟨by omega, by omega⟩ dL_law_349 ?_
  refine q_aload_n C 5 dL_law_350 rfl ?_
  refine q_iload C 1 dL_law_351 rfl ?_
  refine q_iconst C 3 dL_law_353 ?_
  refine q_iadd C dL_law_354 ?_
  refine q_sld C hX hbl hbA ⟨by omega, by omega⟩ dL_law_355 ?_
  refine q_cI (q_runV (As := [.int (iI (sc xs (i + 1))), .int (iI (sc xs (i + 2))), .int (iI (sc xs (i + 3)))]) (rest := []) C (k_X4_move l hM1 hV (sc_in _ _) (sc_in _ _) (sc_in _ _)) kd110 (by decide) rfl wd_1001 wd_999 wd_1000 wd_81 wd_998 nd_X4_move rfl (by decide) ⟨hk, hn⟩ rfl (Nat.le_of_ble_eq_true rfl) dL_law_356) ?_
  rintro z2 F2 hp2
  obtain ⟨hth, hzz, B, hCB, hMB⟩ := law_step hN1 hp2
  refine q_istore (lv' := [(6, .int (iI z2)), (5, .int (iI (moveT A (sc xs (i + 1)) (sc xs (i + 2)) (sc xs (i + 3))))), (4, .int (iI i)), (3, .ref (adr w 120)), (2, .ref (adr w 110)), (1, .ref (adr w 0)), (0, .ref b)]) C dL_law_359 (by decide) rfl ?_
  refine q_aload_n C 4 dL_law_361 rfl ?_
  refine q_cI (q_runV (As := []) (rest := []) C (k_X4_thrown l) kd110 (by decide) rfl wd_920 wd_918 wd_919 wd_81 wd_917 nd_X4_thrown rfl (by decide) ⟨hk, hn⟩ rfl (Nat.le_of_ble_eq_true rfl) dL_law_362) ?_
  rintro z3 F3 ⟨hz3, rfl⟩
  rw [hth] at hz3
  subst hz3
  have hTr := moveT_r A (sc xs (i + 1)) (sc xs (i + 2)) (sc xs (i + 3))
  refine q_iload C 1 dL_law_365 rfl ?_
  refine q_icmp_eq C 372 dL_law_367 ⟨by omega, by omega⟩ ⟨by omega, by omega⟩ (by decide) (fun _ => ?_) (fun h => absurd rfl h)
  refine q_iload C 1 dL_law_372 rfl ?_
  refine q_if_ne C 389 dL_law_374 ⟨by omega, by omega⟩ (by decide) (fun h => ?_) (fun h => ?_)
  · refine q_goto C 1786 dL_law_389 (by decide) ?_
    refine q_iinc (lv' := [(4, .int (iI (i + 5))), (6, .int (iI z2)), (5, .int (iI (moveT A (sc xs (i + 1)) (sc xs (i + 2)) (sc xs (i + 3))))), (3, .ref (adr w 120)), (2, .ref (adr w 110)), (1, .ref (adr w 0)), (0, .ref b)]) C 2 dL_law_1786 rfl (by decide) rfl ?_
    refine q_goto C 23 dL_law_1789 (by decide) ?_
    refine q_lv (lv' := [(4, .int (iI (i + 5))), (3, .ref (adr w 120)), (2, .ref (adr w 110)), (1, .ref (adr w 0)), (0, .ref b)]) [0, 3, 4, 5, 6] rfl ?_
    exact hnext B F2 hCB hMB
  · obtain ⟨e1, e2⟩ := hzz h
    refine q_aload_n C 3 dL_law_377 rfl ?_
    refine q_iconst C 0 dL_law_378 ?_
    refine q_lald C kd120 ⟨by decide, by rw [ln120]; decide⟩ dL_law_379 ?_
    rw [e1]
    refine q_iload C 0 dL_law_380 rfl ?_
    refine q_i2l C dL_law_382 ?_
    refine q_ltop (z' := wI (moveZ A (sc xs (i + 1)) (sc xs (i + 2)) (sc xs (i + 3)))) (by rw [e2]; rfl) ?_
    refine q_lcmps (x := iL (wI _)) C dL_law_383 ?_
    refine q_if_eq C 389 dL_law_384 ⟨by decide, by decide⟩ (by decide) (fun _ => ?_) (fun h => absurd rfl h)
    refine q_goto C 1786 dL_law_389 (by decide) ?_
    refine q_iinc (lv' := [(4, .int (iI (i + 5))), (6, .int (iI z2)), (5, .int (iI (moveT A (sc xs (i + 1)) (sc xs (i + 2)) (sc xs (i + 3))))), (3, .ref (adr w 120)), (2, .ref (adr w 110)), (1, .ref (adr w 0)), (0, .ref b)]) C 2 dL_law_1786 rfl (by decide) rfl ?_
    refine q_goto C 23 dL_law_1789 (by decide) ?_
    refine q_lv (lv' := [(4, .int (iI (i + 5))), (3, .ref (adr w 120)), (2, .ref (adr w 110)), (1, .ref (adr w 0)), (0, .ref b)]) [0, 3, 4, 5, 6] rfl ?_
    exact hnext B F2 hCB hMB

set_option maxRecDepth 100000 in
set_option maxHeartbeats 4000000 in
theorem law_3 (hC : LC p l s m meth c b L xs w) {i : Int} {k n : Nat} {F : FF} {A : AS} (hi : 0 ≤ i ∧ i + 5 ≤ (L : Int)) (hk : k + 1 ≤ 601024) (hn : n + 6 ≤ 7293034) (hA : CI F A) (hM : MI F A) (hnext : ∀ (B : AS) (G : FF), CI G B → MI G B → Wq p l e room_1 s m #[Value.ref b] below meth c Qf w (k + 1) (n + 6) 9 23 [(4, .int (iI (i + 5))), (3, .ref (adr w 120)), (2, .ref (adr w 110)), (1, .ref (adr w 0)), (0, .ref b)] [] G) : Wq p l e room_1 s m #[Value.ref b] below meth c Qf w k n 9 392 [(4, .int (iI i)), (3, .ref (adr w 120)), (2, .ref (adr w 110)), (1, .ref (adr w 0)), (0, .ref b)] [] F := by
  obtain ⟨C, hl, hX, hbl, hbA, hL, hwb⟩ := hC
  have hV := hA.v
  refine q_aload_n C 3 dL_law_392 rfl ?_
  refine q_aload_n C 4 dL_law_393 rfl ?_
  refine q_iload C 0 dL_law_394 rfl ?_
  refine q_iconst C 1 dL_law_396 ?_
  refine q_iadd C dL_law_397 ?_
  refine q_sld C hX hbl hbA ⟨by omega, by omega⟩ dL_law_398 ?_
  refine q_aload_n C 1 dL_law_399 rfl ?_
  refine q_cW (q_runW (As := [.ref (adr w 0), .int (iI (sc xs (i + 1))), .ref (adr w 120)]) (rest := []) C (k_L_clearDoor l hl hA (sc_in _ _)) wd_617 wd_616 wd_76 wd_615 nd_L_clearDoor rfl (by decide) ⟨hk, hn⟩ rfl (Nat.le_of_ble_eq_true rfl) dL_law_400) (fun z F1 hp => ?_)
  obtain ⟨hz1, hN1, hF1⟩ := hp
  subst hz1
  have hM1 := hM.kpL hF1
  refine q_istore (lv' := [(5, .int (iI (clearDoorT A (sc xs (i + 1))))), (4, .int (iI i)), (3, .ref (adr w 120)), (2, .ref (adr w 110)), (1, .ref (adr w 0)), (0, .ref b)]) C dL_law_403 (by decide) rfl ?_
  refine q_aload_n C 3 dL_law_405 rfl ?_
  refine q_aload_n C 5 dL_law_406 rfl ?_
  refine q_iload C 1 dL_law_407 rfl ?_
  refine q_iconst C 1 dL_law_409 ?_
  refine q_iadd C dL_law_410 ?_
  refine q_sld C hX hbl hbA ⟨by omega, by omega⟩ dL_law_411 ?_
  refine q_cI (q_runV (As := [.int (iI (sc xs (i + 1)))]) (rest := []) C (k_X4_clearDoor l hM1 hV (sc_in _ _)) kd110 (by decide) rfl wd_1005 wd_1003 wd_1004 wd_81 wd_1002 nd_X4_clearDoor rfl (by decide) ⟨hk, hn⟩ rfl (Nat.le_of_ble_eq_true rfl) dL_law_412) ?_
  rintro z2 F2 hp2
  obtain ⟨hth, hzz, B, hCB, hMB⟩ := law_step hN1 hp2
  refine q_istore (lv' := [(6, .int (iI z2)), (5, .int (iI (clearDoorT A (sc xs (i + 1))))), (4, .int (iI i)), (3, .ref (adr w 120)), (2, .ref (adr w 110)), (1, .ref (adr w 0)), (0, .ref b)]) C dL_law_415 (by decide) rfl ?_
  refine q_aload_n C 4 dL_law_417 rfl ?_
  refine q_cI (q_runV (As := []) (rest := []) C (k_X4_thrown l) kd110 (by decide) rfl wd_920 wd_918 wd_919 wd_81 wd_917 nd_X4_thrown rfl (by decide) ⟨hk, hn⟩ rfl (Nat.le_of_ble_eq_true rfl) dL_law_418) ?_
  rintro z3 F3 ⟨hz3, rfl⟩
  rw [hth] at hz3
  subst hz3
  have hTr := clearDoorT_r A (sc xs (i + 1))
  refine q_iload C 1 dL_law_421 rfl ?_
  refine q_icmp_eq C 428 dL_law_423 ⟨by omega, by omega⟩ ⟨by omega, by omega⟩ (by decide) (fun _ => ?_) (fun h => absurd rfl h)
  refine q_iload C 1 dL_law_428 rfl ?_
  refine q_if_ne C 445 dL_law_430 ⟨by omega, by omega⟩ (by decide) (fun h => ?_) (fun h => ?_)
  · refine q_goto C 1786 dL_law_445 (by decide) ?_
    refine q_iinc (lv' := [(4, .int (iI (i + 5))), (6, .int (iI z2)), (5, .int (iI (clearDoorT A (sc xs (i + 1))))), (3, .ref (adr w 120)), (2, .ref (adr w 110)), (1, .ref (adr w 0)), (0, .ref b)]) C 2 dL_law_1786 rfl (by decide) rfl ?_
    refine q_goto C 23 dL_law_1789 (by decide) ?_
    refine q_lv (lv' := [(4, .int (iI (i + 5))), (3, .ref (adr w 120)), (2, .ref (adr w 110)), (1, .ref (adr w 0)), (0, .ref b)]) [0, 3, 4, 5, 6] rfl ?_
    exact hnext B F2 hCB hMB
  · obtain ⟨e1, e2⟩ := hzz h
    refine q_aload_n C 3 dL_law_433 rfl ?_
    refine q_iconst C 0 dL_law_434 ?_
    refine q_lald C kd120 ⟨by decide, by rw [ln120]; decide⟩ dL_law_435 ?_
    rw [e1]
    refine q_iload C 0 dL_law_436 rfl ?_
    refine q_i2l C dL_law_438 ?_
    refine q_ltop (z' := wI (clearDoorZ A (sc xs (i + 1)))) (by rw [e2]; rfl) ?_
    refine q_lcmps (x := iL (wI _)) C dL_law_439 ?_
    refine q_if_eq C 445 dL_law_440 ⟨by decide, by decide⟩ (by decide) (fun _ => ?_) (fun h => absurd rfl h)
    refine q_goto C 1786 dL_law_445 (by decide) ?_
    refine q_iinc (lv' := [(4, .int (iI (i + 5))), (6, .int (iI z2)), (5, .int (iI (clearDoorT A (sc xs (i + 1))))), (3, .ref (adr w 120)), (2, .ref (adr w 110)), (1, .ref (adr w 0)), (0, .ref b)]) C 2 dL_law_1786 rfl (by decide) rfl ?_
    refine q_goto C 23 dL_law_1789 (by decide) ?_
    refine q_lv (lv' := [(4, .int (iI (i + 5))), (3, .ref (adr w 120)), (2, .ref (adr w 110)), (1, .ref (adr w 0)), (0, .ref b)]) [0, 3, 4, 5, 6] rfl ?_
    exact hnext B F2 hCB hMB

set_option maxRecDepth 100000 in
set_option maxHeartbeats 4000000 in
theorem law_4 (hC : LC p l s m meth c b L xs w) {i : Int} {k n : Nat} {F : FF} {A : AS} (hi : 0 ≤ i ∧ i + 5 ≤ (L : Int)) (hk : k + 1 ≤ 601024) (hn : n + 6 ≤ 7293034) (hA : CI F A) (hM : MI F A) (hnext : ∀ (B : AS) (G : FF), CI G B → MI G B → Wq p l e room_1 s m #[Value.ref b] below meth c Qf w (k + 1) (n + 6) 9 23 [(4, .int (iI (i + 5))), (3, .ref (adr w 120)), (2, .ref (adr w 110)), (1, .ref (adr w 0)), (0, .ref b)] [] G) : Wq p l e room_1 s m #[Value.ref b] below meth c Qf w k n 9 448 [(4, .int (iI i)), (3, .ref (adr w 120)), (2, .ref (adr w 110)), (1, .ref (adr w 0)), (0, .ref b)] [] F := by
  obtain ⟨C, hl, hX, hbl, hbA, hL, hwb⟩ := hC
  have hV := hA.v
  refine q_aload_n C 3 dL_law_448 rfl ?_
  refine q_aload_n C 4 dL_law_449 rfl ?_
  refine q_iload C 0 dL_law_450 rfl ?_
  refine q_iconst C 1 dL_law_452 ?_
  refine q_iadd C dL_law_453 ?_
  refine q_sld C hX hbl hbA ⟨by omega, by omega⟩ dL_law_454 ?_
  refine q_aload_n C 4 dL_law_455 rfl ?_
  refine q_iload C 0 dL_law_456 rfl ?_
  refine q_iconst C 2 dL_law_458 ?_
  refine q_iadd C dL_law_459 ?_
  refine q_sld C hX hbl hbA ⟨by omega, by omega⟩ dL_law_460 ?_
  refine q_aload_n C 4 dL_law_461 rfl ?_
  refine q_iload C 0 dL_law_462 rfl ?_
  refine q_iconst C 3 dL_law_464 ?_
  refine q_iadd C dL_law_465 ?_
  refine q_sld C hX hbl hbA ⟨by omega, by omega⟩ dL_law_466 ?_
  refine q_aload_n C 4 dL_law_467 rfl ?_
  refine q_iload C 0 dL_law_468 rfl ?_
  refine q_iconst C 4 dL_law_470 ?_
  refine q_iadd C dL_law_471 ?_
  refine q_sld C hX hbl hbA ⟨by omega, by omega⟩ dL_law_472 ?_
  refine q_aload_n C 1 dL_law_473 rfl ?_
  refine q_cW (q_runW (As := [.ref (adr w 0), .int (iI (sc xs (i + 1))), .int (iI (sc xs (i + 2))), .int (iI (sc xs (i + 3))), .int (iI (sc xs (i + 4))), .ref (adr w 120)]) (rest := []) C (k_L_borrow l hl hA (sc_in _ _) (sc_in _ _) (sc_in _ _) (sc_in _ _)) wd_629 wd_628 wd_76 wd_627 nd_L_borrow rfl (by decide) ⟨hk, hn⟩ rfl (Nat.le_of_ble_eq_true rfl) dL_law_474) (fun z F1 hp => ?_)
  obtain ⟨hz1, hN1, hF1⟩ := hp
  subst hz1
  have hM1 := hM.kpL hF1
  refine q_istore (lv' := [(5, .int (iI (borrowT A (sc xs (i + 1)) (sc xs (i + 2)) (sc xs (i + 3)) (sc xs (i + 4))))), (4, .int (iI i)), (3, .ref (adr w 120)), (2, .ref (adr w 110)), (1, .ref (adr w 0)), (0, .ref b)]) C dL_law_477 (by decide) rfl ?_
  refine q_aload_n C 3 dL_law_479 rfl ?_
  refine q_aload_n C 5 dL_law_480 rfl ?_
  refine q_iload C 1 dL_law_481 rfl ?_
  refine q_iconst C 1 dL_law_483 ?_
  refine q_iadd C dL_law_484 ?_
  refine q_sld C hX hbl hbA ⟨by omega, by omega⟩ dL_law_485 ?_
  refine q_aload_n C 5 dL_law_486 rfl ?_
  refine q_iload C 1 dL_law_487 rfl ?_
  refine q_iconst C 2 dL_law_489 ?_
  refine q_iadd C dL_law_490 ?_
  refine q_sld C hX hbl hbA ⟨by omega, by omega⟩ dL_law_491 ?_
  refine q_aload_n C 5 dL_law_492 rfl ?_
  refine q_iload C 1 dL_law_493 rfl ?_
  refine q_iconst C 3 dL_law_495 ?_
  refine q_iadd C dL_law_496 ?_
  refine q_sld C hX hbl hbA ⟨by omega, by omega⟩ dL_law_497 ?_
  refine q_aload_n C 5 dL_law_498 rfl ?_
  refine q_iload C 1 dL_law_499 rfl ?_
  refine q_iconst C 4 dL_law_501 ?_
  refine q_iadd C dL_law_502 ?_
  refine q_sld C hX hbl hbA ⟨by omega, by omega⟩ dL_law_503 ?_
  refine q_cI (q_runV (As := [.int (iI (sc xs (i + 1))), .int (iI (sc xs (i + 2))), .int (iI (sc xs (i + 3))), .int (iI (sc xs (i + 4)))]) (rest := []) C (k_X4_borrow l hM1 hV (sc_in _ _) (sc_in _ _) (sc_in _ _) (sc_in _ _)) kd110 (by decide) rfl wd_1013 wd_1011 wd_1012 wd_81 wd_1010 nd_X4_borrow rfl (by decide) ⟨hk, hn⟩ rfl (Nat.le_of_ble_eq_true rfl) dL_law_504) ?_
  rintro z2 F2 hp2
  obtain ⟨hth, hzz, B, hCB, hMB⟩ := law_step hN1 hp2
  refine q_istore (lv' := [(6, .int (iI z2)), (5, .int (iI (borrowT A (sc xs (i + 1)) (sc xs (i + 2)) (sc xs (i + 3)) (sc xs (i + 4))))), (4, .int (iI i)), (3, .ref (adr w 120)), (2, .ref (adr w 110)), (1, .ref (adr w 0)), (0, .ref b)]) C dL_law_507 (by decide) rfl ?_
  refine q_aload_n C 4 dL_law_509 rfl ?_
  refine q_cI (q_runV (As := []) (rest := []) C (k_X4_thrown l) kd110 (by decide) rfl wd_920 wd_918 wd_919 wd_81 wd_917 nd_X4_thrown rfl (by decide) ⟨hk, hn⟩ rfl (Nat.le_of_ble_eq_true rfl) dL_law_510) ?_
  rintro z3 F3 ⟨hz3, rfl⟩
  rw [hth] at hz3
  subst hz3
  have hTr := borrowT_r A (sc xs (i + 1)) (sc xs (i + 2)) (sc xs (i + 3)) (sc xs (i + 4))
  refine q_iload C 1 dL_law_513 rfl ?_
  refine q_icmp_eq C 520 dL_law_515 ⟨by omega, by omega⟩ ⟨by omega, by omega⟩ (by decide) (fun _ => ?_) (fun h => absurd rfl h)
  refine q_iload C 1 dL_law_520 rfl ?_
  refine q_if_ne C 537 dL_law_522 ⟨by omega, by omega⟩ (by decide) (fun h => ?_) (fun h => ?_)
  · refine q_goto C 1786 dL_law_537 (by decide) ?_
    refine q_iinc (lv' := [(4, .int (iI (i + 5))), (6, .int (iI z2)), (5, .int (iI (borrowT A (sc xs (i + 1)) (sc xs (i + 2)) (sc xs (i + 3)) (sc xs (i + 4))))), (3, .ref (adr w 120)), (2, .ref (adr w 110)), (1, .ref (adr w 0)), (0, .ref b)]) C 2 dL_law_1786 rfl (by decide) rfl ?_
    refine q_goto C 23 dL_law_1789 (by decide) ?_
    refine q_lv (lv' := [(4, .int (iI (i + 5))), (3, .ref (adr w 120)), (2, .ref (adr w 110)), (1, .ref (adr w 0)), (0, .ref b)]) [0, 3, 4, 5, 6] rfl ?_
    exact hnext B F2 hCB hMB
  · obtain ⟨e1, e2⟩ := hzz h
    refine q_aload_n C 3 dL_law_525 rfl ?_
    refine q_iconst C 0 dL_law_526 ?_
    refine q_lald C kd120 ⟨by decide, by rw [ln120]; decide⟩ dL_law_527 ?_
    rw [e1]
    refine q_iload C 0 dL_law_528 rfl ?_
    refine q_i2l C dL_law_530 ?_
    refine q_ltop (z' := wI (borrowZ A (sc xs (i + 1)) (sc xs (i + 2)) (sc xs (i + 3)) (sc xs (i + 4)))) (by rw [e2]; rfl) ?_
    refine q_lcmps (x := iL (wI _)) C dL_law_531 ?_
    refine q_if_eq C 537 dL_law_532 ⟨by decide, by decide⟩ (by decide) (fun _ => ?_) (fun h => absurd rfl h)
    refine q_goto C 1786 dL_law_537 (by decide) ?_
    refine q_iinc (lv' := [(4, .int (iI (i + 5))), (6, .int (iI z2)), (5, .int (iI (borrowT A (sc xs (i + 1)) (sc xs (i + 2)) (sc xs (i + 3)) (sc xs (i + 4))))), (3, .ref (adr w 120)), (2, .ref (adr w 110)), (1, .ref (adr w 0)), (0, .ref b)]) C 2 dL_law_1786 rfl (by decide) rfl ?_
    refine q_goto C 23 dL_law_1789 (by decide) ?_
    refine q_lv (lv' := [(4, .int (iI (i + 5))), (3, .ref (adr w 120)), (2, .ref (adr w 110)), (1, .ref (adr w 0)), (0, .ref b)]) [0, 3, 4, 5, 6] rfl ?_
    exact hnext B F2 hCB hMB

set_option maxRecDepth 100000 in
set_option maxHeartbeats 4000000 in
theorem law_5 (hC : LC p l s m meth c b L xs w) {i : Int} {k n : Nat} {F : FF} {A : AS} (hi : 0 ≤ i ∧ i + 5 ≤ (L : Int)) (hk : k + 1 ≤ 601024) (hn : n + 6 ≤ 7293034) (hA : CI F A) (hM : MI F A) (hnext : ∀ (B : AS) (G : FF), CI G B → MI G B → Wq p l e room_1 s m #[Value.ref b] below meth c Qf w (k + 1) (n + 6) 9 23 [(4, .int (iI (i + 5))), (3, .ref (adr w 120)), (2, .ref (adr w 110)), (1, .ref (adr w 0)), (0, .ref b)] [] G) : Wq p l e room_1 s m #[Value.ref b] below meth c Qf w k n 9 540 [(4, .int (iI i)), (3, .ref (adr w 120)), (2, .ref (adr w 110)), (1, .ref (adr w 0)), (0, .ref b)] [] F := by
  obtain ⟨C, hl, hX, hbl, hbA, hL, hwb⟩ := hC
  have hV := hA.v
  refine q_aload_n C 3 dL_law_540 rfl ?_
  refine q_aload_n C 4 dL_law_541 rfl ?_
  refine q_iload C 0 dL_law_542 rfl ?_
  refine q_iconst C 1 dL_law_544 ?_
  refine q_iadd C dL_law_545 ?_
  refine q_sld C hX hbl hbA ⟨by omega, by omega⟩ dL_law_546 ?_
  refine q_aload_n C 4 dL_law_547 rfl ?_
  refine q_iload C 0 dL_law_548 rfl ?_
  refine q_iconst C 2 dL_law_550 ?_
  refine q_iadd C dL_law_551 ?_
  refine q_sld C hX hbl hbA ⟨by omega, by omega⟩ dL_law_552 ?_
  refine q_aload_n C 1 dL_law_553 rfl ?_
  refine q_cW (q_runW (As := [.ref (adr w 0), .int (iI (sc xs (i + 1))), .int (iI (sc xs (i + 2))), .ref (adr w 120)]) (rest := []) C (k_L_bringBack l hl hA (sc_in _ _) (sc_in _ _)) wd_664 wd_663 wd_76 wd_662 nd_L_bringBack rfl (by decide) ⟨hk, hn⟩ rfl (Nat.le_of_ble_eq_true rfl) dL_law_554) (fun z F1 hp => ?_)
  obtain ⟨hz1, hN1, hF1⟩ := hp
  subst hz1
  have hM1 := hM.kpL hF1
  refine q_istore (lv' := [(5, .int (iI (bringBackT A (sc xs (i + 1)) (sc xs (i + 2))))), (4, .int (iI i)), (3, .ref (adr w 120)), (2, .ref (adr w 110)), (1, .ref (adr w 0)), (0, .ref b)]) C dL_law_557 (by decide) rfl ?_
  refine q_aload_n C 3 dL_law_559 rfl ?_
  refine q_aload_n C 5 dL_law_560 rfl ?_
  refine q_iload C 1 dL_law_561 rfl ?_
  refine q_iconst C 1 dL_law_563 ?_
  refine q_iadd C dL_law_564 ?_
  refine q_sld C hX hbl hbA ⟨by omega, by omega⟩ dL_law_565 ?_
  refine q_aload_n C 5 dL_law_566 rfl ?_
  refine q_iload C 1 dL_law_567 rfl ?_
  refine q_iconst C 2 dL_law_569 ?_
  refine q_iadd C dL_law_570 ?_
  refine q_sld C hX hbl hbA ⟨by omega, by omega⟩ dL_law_571 ?_
  refine q_cI (q_runV (As := [.int (iI (sc xs (i + 1))), .int (iI (sc xs (i + 2)))]) (rest := []) C (k_X4_bringBack l hM1 hV (sc_in _ _) (sc_in _ _)) kd110 (by decide) rfl wd_1032 wd_1030 wd_1031 wd_81 wd_1029 nd_X4_bringBack rfl (by decide) ⟨hk, hn⟩ rfl (Nat.le_of_ble_eq_true rfl) dL_law_572) ?_
  rintro z2 F2 hp2
  obtain ⟨hth, hzz, B, hCB, hMB⟩ := law_step hN1 hp2
  refine q_istore (lv' := [(6, .int (iI z2)), (5, .int (iI (bringBackT A (sc xs (i + 1)) (sc xs (i + 2))))), (4, .int (iI i)), (3, .ref (adr w 120)), (2, .ref (adr w 110)), (1, .ref (adr w 0)), (0, .ref b)]) C dL_law_575 (by decide) rfl ?_
  refine q_aload_n C 4 dL_law_577 rfl ?_
  refine q_cI (q_runV (As := []) (rest := []) C (k_X4_thrown l) kd110 (by decide) rfl wd_920 wd_918 wd_919 wd_81 wd_917 nd_X4_thrown rfl (by decide) ⟨hk, hn⟩ rfl (Nat.le_of_ble_eq_true rfl) dL_law_578) ?_
  rintro z3 F3 ⟨hz3, rfl⟩
  rw [hth] at hz3
  subst hz3
  have hTr := bringBackT_r A (sc xs (i + 1)) (sc xs (i + 2))
  refine q_iload C 1 dL_law_581 rfl ?_
  refine q_icmp_eq C 588 dL_law_583 ⟨by omega, by omega⟩ ⟨by omega, by omega⟩ (by decide) (fun _ => ?_) (fun h => absurd rfl h)
  refine q_iload C 1 dL_law_588 rfl ?_
  refine q_if_ne C 605 dL_law_590 ⟨by omega, by omega⟩ (by decide) (fun h => ?_) (fun h => ?_)
  · refine q_goto C 1786 dL_law_605 (by decide) ?_
    refine q_iinc (lv' := [(4, .int (iI (i + 5))), (6, .int (iI z2)), (5, .int (iI (bringBackT A (sc xs (i + 1)) (sc xs (i + 2))))), (3, .ref (adr w 120)), (2, .ref (adr w 110)), (1, .ref (adr w 0)), (0, .ref b)]) C 2 dL_law_1786 rfl (by decide) rfl ?_
    refine q_goto C 23 dL_law_1789 (by decide) ?_
    refine q_lv (lv' := [(4, .int (iI (i + 5))), (3, .ref (adr w 120)), (2, .ref (adr w 110)), (1, .ref (adr w 0)), (0, .ref b)]) [0, 3, 4, 5, 6] rfl ?_
    exact hnext B F2 hCB hMB
  · obtain ⟨e1, e2⟩ := hzz h
    refine q_aload_n C 3 dL_law_593 rfl ?_
    refine q_iconst C 0 dL_law_594 ?_
    refine q_lald C kd120 ⟨by decide, by rw [ln120]; decide⟩ dL_law_595 ?_
    rw [e1]
    refine q_iload C 0 dL_law_596 rfl ?_
    refine q_i2l C dL_law_598 ?_
    refine q_ltop (z' := wI (bringBackZ A (sc xs (i + 1)) (sc xs (i + 2)))) (by rw [e2]; rfl) ?_
    refine q_lcmps (x := iL (wI _)) C dL_law_599 ?_
    refine q_if_eq C 605 dL_law_600 ⟨by decide, by decide⟩ (by decide) (fun _ => ?_) (fun h => absurd rfl h)
    refine q_goto C 1786 dL_law_605 (by decide) ?_
    refine q_iinc (lv' := [(4, .int (iI (i + 5))), (6, .int (iI z2)), (5, .int (iI (bringBackT A (sc xs (i + 1)) (sc xs (i + 2))))), (3, .ref (adr w 120)), (2, .ref (adr w 110)), (1, .ref (adr w 0)), (0, .ref b)]) C 2 dL_law_1786 rfl (by decide) rfl ?_
    refine q_goto C 23 dL_law_1789 (by decide) ?_
    refine q_lv (lv' := [(4, .int (iI (i + 5))), (3, .ref (adr w 120)), (2, .ref (adr w 110)), (1, .ref (adr w 0)), (0, .ref b)]) [0, 3, 4, 5, 6] rfl ?_
    exact hnext B F2 hCB hMB

set_option maxRecDepth 100000 in
set_option maxHeartbeats 4000000 in
theorem law_6 (hC : LC p l s m meth c b L xs w) {i : Int} {k n : Nat} {F : FF} {A : AS} (hi : 0 ≤ i ∧ i + 5 ≤ (L : Int)) (hk : k + 1 ≤ 601024) (hn : n + 6 ≤ 7293034) (hA : CI F A) (hM : MI F A) (hnext : ∀ (B : AS) (G : FF), CI G B → MI G B → Wq p l e room_1 s m #[Value.ref b] below meth c Qf w (k + 1) (n + 6) 9 23 [(4, .int (iI (i + 5))), (3, .ref (adr w 120)), (2, .ref (adr w 110)), (1, .ref (adr w 0)), (0, .ref b)] [] G) : Wq p l e room_1 s m #[Value.ref b] below meth c Qf w k n 9 608 [(4, .int (iI i)), (3, .ref (adr w 120)), (2, .ref (adr w 110)), (1, .ref (adr w 0)), (0, .ref b)] [] F := by
  obtain ⟨C, hl, hX, hbl, hbA, hL, hwb⟩ := hC
  have hV := hA.v
  refine q_aload_n C 3 dL_law_608 rfl ?_
  refine q_aload_n C 4 dL_law_609 rfl ?_
  refine q_iload C 0 dL_law_610 rfl ?_
  refine q_iconst C 1 dL_law_612 ?_
  refine q_iadd C dL_law_613 ?_
  refine q_sld C hX hbl hbA ⟨by omega, by omega⟩ dL_law_614 ?_
  refine q_aload_n C 1 dL_law_615 rfl ?_
  refine q_cW (q_runW (As := [.ref (adr w 0), .int (iI (sc xs (i + 1))), .ref (adr w 120)]) (rest := []) C (k_L_sleep l hl hA (sc_in _ _)) wd_677 wd_676 wd_76 wd_675 nd_L_sleep rfl (by decide) ⟨hk, hn⟩ rfl (Nat.le_of_ble_eq_true rfl) dL_law_616) (fun z F1 hp => ?_)
  obtain ⟨hz1, hN1, hF1⟩ := hp
  subst hz1
  have hM1 := hM.kpL hF1
  refine q_istore (lv' := [(5, .int (iI (sleepT A (sc xs (i + 1))))), (4, .int (iI i)), (3, .ref (adr w 120)), (2, .ref (adr w 110)), (1, .ref (adr w 0)), (0, .ref b)]) C dL_law_619 (by decide) rfl ?_
  refine q_aload_n C 3 dL_law_621 rfl ?_
  refine q_aload_n C 5 dL_law_622 rfl ?_
  refine q_iload C 1 dL_law_623 rfl ?_
  refine q_iconst C 1 dL_law_625 ?_
  refine q_iadd C dL_law_626 ?_
  refine q_sld C hX hbl hbA ⟨by omega, by omega⟩ dL_law_627 ?_
  refine q_cI (q_runV (As := [.int (iI (sc xs (i + 1)))]) (rest := []) C (k_X4_sleep l hM1 hV (sc_in _ _)) kd110 (by decide) rfl wd_1036 wd_1034 wd_1035 wd_81 wd_1033 nd_X4_sleep rfl (by decide) ⟨hk, hn⟩ rfl (Nat.le_of_ble_eq_true rfl) dL_law_628) ?_
  rintro z2 F2 hp2
  obtain ⟨hth, hzz, B, hCB, hMB⟩ := law_step hN1 hp2
  refine q_istore (lv' := [(6, .int (iI z2)), (5, .int (iI (sleepT A (sc xs (i + 1))))), (4, .int (iI i)), (3, .ref (adr w 120)), (2, .ref (adr w 110)), (1, .ref (adr w 0)), (0, .ref b)]) C dL_law_631 (by decide) rfl ?_
  refine q_aload_n C 4 dL_law_633 rfl ?_
  refine q_cI (q_runV (As := []) (rest := []) C (k_X4_thrown l) kd110 (by decide) rfl wd_920 wd_918 wd_919 wd_81 wd_917 nd_X4_thrown rfl (by decide) ⟨hk, hn⟩ rfl (Nat.le_of_ble_eq_true rfl) dL_law_634) ?_
  rintro z3 F3 ⟨hz3, rfl⟩
  rw [hth] at hz3
  subst hz3
  have hTr := sleepT_r A (sc xs (i + 1))
  refine q_iload C 1 dL_law_637 rfl ?_
  refine q_icmp_eq C 644 dL_law_639 ⟨by omega, by omega⟩ ⟨by omega, by omega⟩ (by decide) (fun _ => ?_) (fun h => absurd rfl h)
  refine q_iload C 1 dL_law_644 rfl ?_
  refine q_if_ne C 661 dL_law_646 ⟨by omega, by omega⟩ (by decide) (fun h => ?_) (fun h => ?_)
  · refine q_goto C 1786 dL_law_661 (by decide) ?_
    refine q_iinc (lv' := [(4, .int (iI (i + 5))), (6, .int (iI z2)), (5, .int (iI (sleepT A (sc xs (i + 1))))), (3, .ref (adr w 120)), (2, .ref (adr w 110)), (1, .ref (adr w 0)), (0, .ref b)]) C 2 dL_law_1786 rfl (by decide) rfl ?_
    refine q_goto C 23 dL_law_1789 (by decide) ?_
    refine q_lv (lv' := [(4, .int (iI (i + 5))), (3, .ref (adr w 120)), (2, .ref (adr w 110)), (1, .ref (adr w 0)), (0, .ref b)]) [0, 3, 4, 5, 6] rfl ?_
    exact hnext B F2 hCB hMB
  · obtain ⟨e1, e2⟩ := hzz h
    refine q_aload_n C 3 dL_law_649 rfl ?_
    refine q_iconst C 0 dL_law_650 ?_
    refine q_lald C kd120 ⟨by decide, by rw [ln120]; decide⟩ dL_law_651 ?_
    rw [e1]
    refine q_iload C 0 dL_law_652 rfl ?_
    refine q_i2l C dL_law_654 ?_
    refine q_ltop (z' := wI (sleepZ A (sc xs (i + 1)))) (by rw [e2]; rfl) ?_
    refine q_lcmps (x := iL (wI _)) C dL_law_655 ?_
    refine q_if_eq C 661 dL_law_656 ⟨by decide, by decide⟩ (by decide) (fun _ => ?_) (fun h => absurd rfl h)
    refine q_goto C 1786 dL_law_661 (by decide) ?_
    refine q_iinc (lv' := [(4, .int (iI (i + 5))), (6, .int (iI z2)), (5, .int (iI (sleepT A (sc xs (i + 1))))), (3, .ref (adr w 120)), (2, .ref (adr w 110)), (1, .ref (adr w 0)), (0, .ref b)]) C 2 dL_law_1786 rfl (by decide) rfl ?_
    refine q_goto C 23 dL_law_1789 (by decide) ?_
    refine q_lv (lv' := [(4, .int (iI (i + 5))), (3, .ref (adr w 120)), (2, .ref (adr w 110)), (1, .ref (adr w 0)), (0, .ref b)]) [0, 3, 4, 5, 6] rfl ?_
    exact hnext B F2 hCB hMB

set_option maxRecDepth 100000 in
set_option maxHeartbeats 4000000 in
theorem law_7 (hC : LC p l s m meth c b L xs w) {i : Int} {k n : Nat} {F : FF} {A : AS} (hi : 0 ≤ i ∧ i + 5 ≤ (L : Int)) (hk : k + 1 ≤ 601024) (hn : n + 6 ≤ 7293034) (hA : CI F A) (hM : MI F A) (hnext : ∀ (B : AS) (G : FF), CI G B → MI G B → Wq p l e room_1 s m #[Value.ref b] below meth c Qf w (k + 1) (n + 6) 9 23 [(4, .int (iI (i + 5))), (3, .ref (adr w 120)), (2, .ref (adr w 110)), (1, .ref (adr w 0)), (0, .ref b)] [] G) : Wq p l e room_1 s m #[Value.ref b] below meth c Qf w k n 9 664 [(4, .int (iI i)), (3, .ref (adr w 120)), (2, .ref (adr w 110)), (1, .ref (adr w 0)), (0, .ref b)] [] F := by
  obtain ⟨C, hl, hX, hbl, hbA, hL, hwb⟩ := hC
  have hV := hA.v
  refine q_aload_n C 3 dL_law_664 rfl ?_
  refine q_aload_n C 4 dL_law_665 rfl ?_
  refine q_iload C 0 dL_law_666 rfl ?_
  refine q_iconst C 1 dL_law_668 ?_
  refine q_iadd C dL_law_669 ?_
  refine q_sld C hX hbl hbA ⟨by omega, by omega⟩ dL_law_670 ?_
  refine q_aload_n C 4 dL_law_671 rfl ?_
  refine q_iload C 0 dL_law_672 rfl ?_
  refine q_iconst C 2 dL_law_674 ?_
  refine q_iadd C dL_law_675 ?_
  refine q_sld C hX hbl hbA ⟨by omega, by omega⟩ dL_law_676 ?_
  refine q_aload_n C 1 dL_law_677 rfl ?_
  refine q_cW (q_runW (As := [.ref (adr w 0), .int (iI (sc xs (i + 1))), .int (iI (sc xs (i + 2))), .ref (adr w 120)]) (rest := []) C (k_L_set l hl hA (sc_in _ _) (sc_in _ _)) wd_689 wd_688 wd_76 wd_687 nd_L_set rfl (by decide) ⟨hk, hn⟩ rfl (Nat.le_of_ble_eq_true rfl) dL_law_678) (fun z F1 hp => ?_)
  obtain ⟨hz1, hN1, hF1⟩ := hp
  subst hz1
  have hM1 := hM.kpL hF1
  refine q_istore (lv' := [(5, .int (iI (setT A (sc xs (i + 1)) (sc xs (i + 2))))), (4, .int (iI i)), (3, .ref (adr w 120)), (2, .ref (adr w 110)), (1, .ref (adr w 0)), (0, .ref b)]) C dL_law_681 (by decide) rfl ?_
  refine q_aload_n C 3 dL_law_683 rfl ?_
  refine q_aload_n C 5 dL_law_684 rfl ?_
  refine q_iload C 1 dL_law_685 rfl ?_
  refine q_iconst C 1 dL_law_687 ?_
  refine q_iadd C dL_law_688 ?_
  refine q_sld C hX hbl hbA ⟨by omega, by omega⟩ dL_law_689 ?_
  refine q_aload_n C 5 dL_law_690 rfl ?_
  refine q_iload C 1 dL_law_691 rfl ?_
  refine q_iconst C 2 dL_law_693 ?_
  refine q_iadd C dL_law_694 ?_
  refine q_sld C hX hbl hbA ⟨by omega, by omega⟩ dL_law_695 ?_
  refine q_cI (q_runV (As := [.int (iI (sc xs (i + 1))), .int (iI (sc xs (i + 2)))]) (rest := []) C (k_X4_set l hM1 hV (sc_in _ _) (sc_in _ _)) kd110 (by decide) rfl wd_1084 wd_1082 wd_1083 wd_81 wd_1081 nd_X4_set rfl (by decide) ⟨hk, hn⟩ rfl (Nat.le_of_ble_eq_true rfl) dL_law_696) ?_
  rintro z2 F2 hp2
  obtain ⟨hth, hzz, B, hCB, hMB⟩ := law_step hN1 hp2
  refine q_istore (lv' := [(6, .int (iI z2)), (5, .int (iI (setT A (sc xs (i + 1)) (sc xs (i + 2))))), (4, .int (iI i)), (3, .ref (adr w 120)), (2, .ref (adr w 110)), (1, .ref (adr w 0)), (0, .ref b)]) C dL_law_699 (by decide) rfl ?_
  refine q_aload_n C 4 dL_law_701 rfl ?_
  refine q_cI (q_runV (As := []) (rest := []) C (k_X4_thrown l) kd110 (by decide) rfl wd_920 wd_918 wd_919 wd_81 wd_917 nd_X4_thrown rfl (by decide) ⟨hk, hn⟩ rfl (Nat.le_of_ble_eq_true rfl) dL_law_702) ?_
  rintro z3 F3 ⟨hz3, rfl⟩
  rw [hth] at hz3
  subst hz3
  have hTr := setT_r A (sc xs (i + 1)) (sc xs (i + 2))
  refine q_iload C 1 dL_law_705 rfl ?_
  refine q_icmp_eq C 712 dL_law_707 ⟨by omega, by omega⟩ ⟨by omega, by omega⟩ (by decide) (fun _ => ?_) (fun h => absurd rfl h)
  refine q_iload C 1 dL_law_712 rfl ?_
  refine q_if_ne C 729 dL_law_714 ⟨by omega, by omega⟩ (by decide) (fun h => ?_) (fun h => ?_)
  · refine q_goto C 1786 dL_law_729 (by decide) ?_
    refine q_iinc (lv' := [(4, .int (iI (i + 5))), (6, .int (iI z2)), (5, .int (iI (setT A (sc xs (i + 1)) (sc xs (i + 2))))), (3, .ref (adr w 120)), (2, .ref (adr w 110)), (1, .ref (adr w 0)), (0, .ref b)]) C 2 dL_law_1786 rfl (by decide) rfl ?_
    refine q_goto C 23 dL_law_1789 (by decide) ?_
    refine q_lv (lv' := [(4, .int (iI (i + 5))), (3, .ref (adr w 120)), (2, .ref (adr w 110)), (1, .ref (adr w 0)), (0, .ref b)]) [0, 3, 4, 5, 6] rfl ?_
    exact hnext B F2 hCB hMB
  · obtain ⟨e1, e2⟩ := hzz h
    refine q_aload_n C 3 dL_law_717 rfl ?_
    refine q_iconst C 0 dL_law_718 ?_
    refine q_lald C kd120 ⟨by decide, by rw [ln120]; decide⟩ dL_law_719 ?_
    rw [e1]
    refine q_iload C 0 dL_law_720 rfl ?_
    refine q_i2l C dL_law_722 ?_
    refine q_ltop (z' := wI (setZ A (sc xs (i + 1)) (sc xs (i + 2)))) (by rw [e2]; rfl) ?_
    refine q_lcmps (x := iL (wI _)) C dL_law_723 ?_
    refine q_if_eq C 729 dL_law_724 ⟨by decide, by decide⟩ (by decide) (fun _ => ?_) (fun h => absurd rfl h)
    refine q_goto C 1786 dL_law_729 (by decide) ?_
    refine q_iinc (lv' := [(4, .int (iI (i + 5))), (6, .int (iI z2)), (5, .int (iI (setT A (sc xs (i + 1)) (sc xs (i + 2))))), (3, .ref (adr w 120)), (2, .ref (adr w 110)), (1, .ref (adr w 0)), (0, .ref b)]) C 2 dL_law_1786 rfl (by decide) rfl ?_
    refine q_goto C 23 dL_law_1789 (by decide) ?_
    refine q_lv (lv' := [(4, .int (iI (i + 5))), (3, .ref (adr w 120)), (2, .ref (adr w 110)), (1, .ref (adr w 0)), (0, .ref b)]) [0, 3, 4, 5, 6] rfl ?_
    exact hnext B F2 hCB hMB

set_option maxRecDepth 100000 in
set_option maxHeartbeats 4000000 in
theorem law_8 (hC : LC p l s m meth c b L xs w) {i : Int} {k n : Nat} {F : FF} {A : AS} (hi : 0 ≤ i ∧ i + 5 ≤ (L : Int)) (hk : k + 1 ≤ 601024) (hn : n + 6 ≤ 7293034) (hA : CI F A) (hM : MI F A) (hnext : ∀ (B : AS) (G : FF), CI G B → MI G B → Wq p l e room_1 s m #[Value.ref b] below meth c Qf w (k + 1) (n + 6) 9 23 [(4, .int (iI (i + 5))), (3, .ref (adr w 120)), (2, .ref (adr w 110)), (1, .ref (adr w 0)), (0, .ref b)] [] G) : Wq p l e room_1 s m #[Value.ref b] below meth c Qf w k n 9 732 [(4, .int (iI i)), (3, .ref (adr w 120)), (2, .ref (adr w 110)), (1, .ref (adr w 0)), (0, .ref b)] [] F := by
  obtain ⟨C, hl, hX, hbl, hbA, hL, hwb⟩ := hC
  have hV := hA.v
  refine q_aload_n C 3 dL_law_732 rfl ?_
  refine q_aload_n C 4 dL_law_733 rfl ?_
  refine q_iload C 0 dL_law_734 rfl ?_
  refine q_iconst C 1 dL_law_736 ?_
  refine q_iadd C dL_law_737 ?_
  refine q_sld C hX hbl hbA ⟨by omega, by omega⟩ dL_law_738 ?_
  refine q_aload_n C 1 dL_law_739 rfl ?_
  refine q_cW (q_runW (As := [.ref (adr w 0), .int (iI (sc xs (i + 1))), .ref (adr w 120)]) (rest := []) C (k_L_append l hl hA (sc_in _ _)) wd_708 wd_707 wd_76 wd_706 nd_L_append rfl (by decide) ⟨hk, hn⟩ rfl (Nat.le_of_ble_eq_true rfl) dL_law_740) (fun z F1 hp => ?_)
  obtain ⟨hz1, hN1, hF1⟩ := hp
  subst hz1
  have hM1 := hM.kpL hF1
  refine q_istore (lv' := [(5, .int (iI (appendT A (sc xs (i + 1))))), (4, .int (iI i)), (3, .ref (adr w 120)), (2, .ref (adr w 110)), (1, .ref (adr w 0)), (0, .ref b)]) C dL_law_743 (by decide) rfl ?_
  refine q_aload_n C 3 dL_law_745 rfl ?_
  refine q_aload_n C 5 dL_law_746 rfl ?_
  refine q_iload C 1 dL_law_747 rfl ?_
  refine q_iconst C 1 dL_law_749 ?_
  refine q_iadd C dL_law_750 ?_
  refine q_sld C hX hbl hbA ⟨by omega, by omega⟩ dL_law_751 ?_
  refine q_cI (q_runV (As := [.int (iI (sc xs (i + 1)))]) (rest := []) C (k_X4_append l hM1 hV (sc_in _ _)) kd110 (by decide) rfl wd_1091 wd_1089 wd_1090 wd_81 wd_1088 nd_X4_append rfl (by decide) ⟨hk, hn⟩ rfl (Nat.le_of_ble_eq_true rfl) dL_law_752) ?_
  rintro z2 F2 hp2
  obtain ⟨hth, hzz, B, hCB, hMB⟩ := law_step hN1 hp2
  refine q_istore (lv' := [(6, .int (iI z2)), (5, .int (iI (appendT A (sc xs (i + 1))))), (4, .int (iI i)), (3, .ref (adr w 120)), (2, .ref (adr w 110)), (1, .ref (adr w 0)), (0, .ref b)]) C dL_law_755 (by decide) rfl ?_
  refine q_aload_n C 4 dL_law_757 rfl ?_
  refine q_cI (q_runV (As := []) (rest := []) C (k_X4_thrown l) kd110 (by decide) rfl wd_920 wd_918 wd_919 wd_81 wd_917 nd_X4_thrown rfl (by decide) ⟨hk, hn⟩ rfl (Nat.le_of_ble_eq_true rfl) dL_law_758) ?_
  rintro z3 F3 ⟨hz3, rfl⟩
  rw [hth] at hz3
  subst hz3
  have hTr := appendT_r A (sc xs (i + 1))
  refine q_iload C 1 dL_law_761 rfl ?_
  refine q_icmp_eq C 768 dL_law_763 ⟨by omega, by omega⟩ ⟨by omega, by omega⟩ (by decide) (fun _ => ?_) (fun h => absurd rfl h)
  refine q_iload C 1 dL_law_768 rfl ?_
  refine q_if_ne C 785 dL_law_770 ⟨by omega, by omega⟩ (by decide) (fun h => ?_) (fun h => ?_)
  · refine q_goto C 1786 dL_law_785 (by decide) ?_
    refine q_iinc (lv' := [(4, .int (iI (i + 5))), (6, .int (iI z2)), (5, .int (iI (appendT A (sc xs (i + 1))))), (3, .ref (adr w 120)), (2, .ref (adr w 110)), (1, .ref (adr w 0)), (0, .ref b)]) C 2 dL_law_1786 rfl (by decide) rfl ?_
    refine q_goto C 23 dL_law_1789 (by decide) ?_
    refine q_lv (lv' := [(4, .int (iI (i + 5))), (3, .ref (adr w 120)), (2, .ref (adr w 110)), (1, .ref (adr w 0)), (0, .ref b)]) [0, 3, 4, 5, 6] rfl ?_
    exact hnext B F2 hCB hMB
  · obtain ⟨e1, e2⟩ := hzz h
    refine q_aload_n C 3 dL_law_773 rfl ?_
    refine q_iconst C 0 dL_law_774 ?_
    refine q_lald C kd120 ⟨by decide, by rw [ln120]; decide⟩ dL_law_775 ?_
    rw [e1]
    refine q_iload C 0 dL_law_776 rfl ?_
    refine q_i2l C dL_law_778 ?_
    refine q_ltop (z' := wI (appendZ A (sc xs (i + 1)))) (by rw [e2]; rfl) ?_
    refine q_lcmps (x := iL (wI _)) C dL_law_779 ?_
    refine q_if_eq C 785 dL_law_780 ⟨by decide, by decide⟩ (by decide) (fun _ => ?_) (fun h => absurd rfl h)
    refine q_goto C 1786 dL_law_785 (by decide) ?_
    refine q_iinc (lv' := [(4, .int (iI (i + 5))), (6, .int (iI z2)), (5, .int (iI (appendT A (sc xs (i + 1))))), (3, .ref (adr w 120)), (2, .ref (adr w 110)), (1, .ref (adr w 0)), (0, .ref b)]) C 2 dL_law_1786 rfl (by decide) rfl ?_
    refine q_goto C 23 dL_law_1789 (by decide) ?_
    refine q_lv (lv' := [(4, .int (iI (i + 5))), (3, .ref (adr w 120)), (2, .ref (adr w 110)), (1, .ref (adr w 0)), (0, .ref b)]) [0, 3, 4, 5, 6] rfl ?_
    exact hnext B F2 hCB hMB

set_option maxRecDepth 100000 in
set_option maxHeartbeats 4000000 in
theorem law_9 (hC : LC p l s m meth c b L xs w) {i : Int} {k n : Nat} {F : FF} {A : AS} (hi : 0 ≤ i ∧ i + 5 ≤ (L : Int)) (hk : k + 1 ≤ 601024) (hn : n + 6 ≤ 7293034) (hA : CI F A) (hM : MI F A) (hnext : ∀ (B : AS) (G : FF), CI G B → MI G B → Wq p l e room_1 s m #[Value.ref b] below meth c Qf w (k + 1) (n + 6) 9 23 [(4, .int (iI (i + 5))), (3, .ref (adr w 120)), (2, .ref (adr w 110)), (1, .ref (adr w 0)), (0, .ref b)] [] G) : Wq p l e room_1 s m #[Value.ref b] below meth c Qf w k n 9 788 [(4, .int (iI i)), (3, .ref (adr w 120)), (2, .ref (adr w 110)), (1, .ref (adr w 0)), (0, .ref b)] [] F := by
  obtain ⟨C, hl, hX, hbl, hbA, hL, hwb⟩ := hC
  have hV := hA.v
  refine q_aload_n C 3 dL_law_788 rfl ?_
  refine q_cI (q_runV (As := []) (rest := []) C (k_X3_clearBuffer l hA) kd0 (by decide) rfl wd_232 wd_230 wd_231 wd_77 wd_229 nd_X3_clearBuffer rfl (by decide) ⟨Nat.le_of_succ_le hk, Nat.le_trans (Nat.le_add_right n 6) hn⟩ rfl (Nat.le_of_ble_eq_true rfl) dL_law_789) ?_
  rintro z1 F1 ⟨rfl, hJ⟩
  have hM1 : MI F1 A := hM.kpL (fun k a _ => hJ.2 k a)
  have hC1 := hJ.1
  refine q_aload_n C 2 dL_law_792 rfl ?_
  refine q_cI (q_runV (As := []) (rest := [.int (iI A.len)]) C (k_X4_clearBuffer l hM1 hV) kd110 (by decide) rfl wd_1095 wd_1093 wd_1094 wd_81 wd_1092 nd_X4_clearBuffer rfl (by decide) ⟨Nat.le_of_succ_le hk, Nat.le_trans (Nat.le_add_right n 6) hn⟩ rfl (Nat.le_of_ble_eq_true rfl) dL_law_793) ?_
  rintro z2 F2 ⟨rfl, hJ2⟩
  have hC2 : CI F2 (A.buf (0, A.B)) := hC1.kpM hJ2.2.1
  have hM2 : MI F2 (A.buf (0, A.B)) := hJ2.1
  have hr9 := hM.lr
  refine q_icmp_eq C 1786 dL_law_796 ⟨by omega, by omega⟩ ⟨by omega, by omega⟩ (by decide) (fun _ => ?_) (fun h => absurd rfl h)
  refine q_iinc (lv' := [(4, .int (iI (i + 5))), (3, .ref (adr w 120)), (2, .ref (adr w 110)), (1, .ref (adr w 0)), (0, .ref b)]) C 0 dL_law_1786 rfl (by decide) rfl ?_
  refine q_goto C 23 dL_law_1789 (by decide) ?_
  refine q_lv (lv' := [(4, .int (iI (i + 5))), (3, .ref (adr w 120)), (2, .ref (adr w 110)), (1, .ref (adr w 0)), (0, .ref b)]) [0, 1, 2, 3, 4] rfl ?_
  refine q_widen (k' := k + 1) (n' := n + 6) (by omega) (by omega) ?_
  exact hnext (A.buf (0, A.B)) F2 hC2 hM2

set_option maxRecDepth 100000 in
set_option maxHeartbeats 4000000 in
theorem law_10 (hC : LC p l s m meth c b L xs w) {i : Int} {k n : Nat} {F : FF} {A : AS} (hi : 0 ≤ i ∧ i + 5 ≤ (L : Int)) (hk : k + 1 ≤ 601024) (hn : n + 6 ≤ 7293034) (hA : CI F A) (hM : MI F A) (hnext : ∀ (B : AS) (G : FF), CI G B → MI G B → Wq p l e room_1 s m #[Value.ref b] below meth c Qf w (k + 1) (n + 6) 9 23 [(4, .int (iI (i + 5))), (3, .ref (adr w 120)), (2, .ref (adr w 110)), (1, .ref (adr w 0)), (0, .ref b)] [] G) : Wq p l e room_1 s m #[Value.ref b] below meth c Qf w k n 9 801 [(4, .int (iI i)), (3, .ref (adr w 120)), (2, .ref (adr w 110)), (1, .ref (adr w 0)), (0, .ref b)] [] F := by
  obtain ⟨C, hl, hX, hbl, hbA, hL, hwb⟩ := hC
  have hV := hA.v
  refine q_aload_n C 3 dL_law_801 rfl ?_
  refine q_cI (q_runV (As := []) (rest := []) C (k_X3_firstError l hA) kd0 (by decide) rfl wd_236 wd_234 wd_235 wd_77 wd_233 nd_X3_firstError rfl (by decide) ⟨Nat.le_of_succ_le hk, Nat.le_trans (Nat.le_add_right n 6) hn⟩ rfl (Nat.le_of_ble_eq_true rfl) dL_law_802) ?_
  rintro z1 F1 ⟨rfl, hJ⟩
  have hM1 : MI F1 A := hM.kpL (fun k a _ => hJ.2 k a)
  have hC1 := hJ.1
  refine q_aload_n C 2 dL_law_805 rfl ?_
  refine q_cI (q_runV (As := []) (rest := [.int (iI (fe A.B A.len))]) C (k_X4_firstError l hM1 hV) kd110 (by decide) rfl wd_1099 wd_1097 wd_1098 wd_81 wd_1096 nd_X4_firstError rfl (by decide) ⟨Nat.le_of_succ_le hk, Nat.le_trans (Nat.le_add_right n 6) hn⟩ rfl (Nat.le_of_ble_eq_true rfl) dL_law_806) ?_
  rintro z2 F2 ⟨rfl, hJ2⟩
  have hC2 : CI F2 A := hC1.kpM hJ2.2.1
  have hM2 : MI F2 A := hJ2.1
  have hr9 := fe_range (B := A.B) hM.lr.1; have hr8 := hM.lr
  refine q_icmp_eq C 1786 dL_law_809 ⟨by omega, by omega⟩ ⟨by omega, by omega⟩ (by decide) (fun _ => ?_) (fun h => absurd rfl h)
  refine q_iinc (lv' := [(4, .int (iI (i + 5))), (3, .ref (adr w 120)), (2, .ref (adr w 110)), (1, .ref (adr w 0)), (0, .ref b)]) C 0 dL_law_1786 rfl (by decide) rfl ?_
  refine q_goto C 23 dL_law_1789 (by decide) ?_
  refine q_lv (lv' := [(4, .int (iI (i + 5))), (3, .ref (adr w 120)), (2, .ref (adr w 110)), (1, .ref (adr w 0)), (0, .ref b)]) [0, 1, 2, 3, 4] rfl ?_
  refine q_widen (k' := k + 1) (n' := n + 6) (by omega) (by omega) ?_
  exact hnext A F2 hC2 hM2

set_option maxRecDepth 100000 in
set_option maxHeartbeats 4000000 in
theorem law_11 (hC : LC p l s m meth c b L xs w) {i : Int} {k n : Nat} {F : FF} {A : AS} (hi : 0 ≤ i ∧ i + 5 ≤ (L : Int)) (hk : k + 1 ≤ 601024) (hn : n + 6 ≤ 7293034) (hA : CI F A) (hM : MI F A) (hnext : ∀ (B : AS) (G : FF), CI G B → MI G B → Wq p l e room_1 s m #[Value.ref b] below meth c Qf w (k + 1) (n + 6) 9 23 [(4, .int (iI (i + 5))), (3, .ref (adr w 120)), (2, .ref (adr w 110)), (1, .ref (adr w 0)), (0, .ref b)] [] G) : Wq p l e room_1 s m #[Value.ref b] below meth c Qf w k n 9 814 [(4, .int (iI i)), (3, .ref (adr w 120)), (2, .ref (adr w 110)), (1, .ref (adr w 0)), (0, .ref b)] [] F := by
  obtain ⟨C, hl, hX, hbl, hbA, hL, hwb⟩ := hC
  have hV := hA.v
  refine q_aload_n C 3 dL_law_814 rfl ?_
  refine q_aload_n C 4 dL_law_815 rfl ?_
  refine q_iload C 0 dL_law_816 rfl ?_
  refine q_iconst C 1 dL_law_818 ?_
  refine q_iadd C dL_law_819 ?_
  refine q_sld C hX hbl hbA ⟨by omega, by omega⟩ dL_law_820 ?_
  refine q_aload_n C 1 dL_law_821 rfl ?_
  refine q_cW (q_runW (As := [.ref (adr w 0), .int (iI (sc xs (i + 1))), .ref (adr w 120)]) (rest := []) C (k_L_load l hl hA (sc_in _ _)) wd_721 wd_720 wd_76 wd_719 nd_L_load rfl (by decide) ⟨hk, hn⟩ rfl (Nat.le_of_ble_eq_true rfl) dL_law_822) (fun z F1 hp => ?_)
  obtain ⟨hz1, hN1, hF1⟩ := hp
  subst hz1
  have hM1 := hM.kpL hF1
  refine q_istore (lv' := [(5, .int (iI (loadT A (sc xs (i + 1))))), (4, .int (iI i)), (3, .ref (adr w 120)), (2, .ref (adr w 110)), (1, .ref (adr w 0)), (0, .ref b)]) C dL_law_825 (by decide) rfl ?_
  refine q_aload_n C 3 dL_law_827 rfl ?_
  refine q_aload_n C 5 dL_law_828 rfl ?_
  refine q_iload C 1 dL_law_829 rfl ?_
  refine q_iconst C 1 dL_law_831 ?_
  refine q_iadd C dL_law_832 ?_
  refine q_sld C hX hbl hbA ⟨by omega, by omega⟩ dL_law_833 ?_
  refine q_cI (q_runV (As := [.int (iI (sc xs (i + 1)))]) (rest := []) C (k_X4_load l hM1 hV (sc_in _ _)) kd110 (by decide) rfl wd_1123 wd_1121 wd_1122 wd_81 wd_1120 nd_X4_load rfl (by decide) ⟨hk, hn⟩ rfl (Nat.le_of_ble_eq_true rfl) dL_law_834) ?_
  rintro z2 F2 hp2
  obtain ⟨hth, hzz, B, hCB, hMB⟩ := law_step hN1 hp2
  refine q_istore (lv' := [(6, .int (iI z2)), (5, .int (iI (loadT A (sc xs (i + 1))))), (4, .int (iI i)), (3, .ref (adr w 120)), (2, .ref (adr w 110)), (1, .ref (adr w 0)), (0, .ref b)]) C dL_law_837 (by decide) rfl ?_
  refine q_aload_n C 4 dL_law_839 rfl ?_
  refine q_cI (q_runV (As := []) (rest := []) C (k_X4_thrown l) kd110 (by decide) rfl wd_920 wd_918 wd_919 wd_81 wd_917 nd_X4_thrown rfl (by decide) ⟨hk, hn⟩ rfl (Nat.le_of_ble_eq_true rfl) dL_law_840) ?_
  rintro z3 F3 ⟨hz3, rfl⟩
  rw [hth] at hz3
  subst hz3
  have hTr := loadT_r A (sc xs (i + 1))
  refine q_iload C 1 dL_law_843 rfl ?_
  refine q_icmp_eq C 850 dL_law_845 ⟨by omega, by omega⟩ ⟨by omega, by omega⟩ (by decide) (fun _ => ?_) (fun h => absurd rfl h)
  refine q_iload C 1 dL_law_850 rfl ?_
  refine q_if_ne C 867 dL_law_852 ⟨by omega, by omega⟩ (by decide) (fun h => ?_) (fun h => ?_)
  · refine q_goto C 1786 dL_law_867 (by decide) ?_
    refine q_iinc (lv' := [(4, .int (iI (i + 5))), (6, .int (iI z2)), (5, .int (iI (loadT A (sc xs (i + 1))))), (3, .ref (adr w 120)), (2, .ref (adr w 110)), (1, .ref (adr w 0)), (0, .ref b)]) C 2 dL_law_1786 rfl (by decide) rfl ?_
    refine q_goto C 23 dL_law_1789 (by decide) ?_
    refine q_lv (lv' := [(4, .int (iI (i + 5))), (3, .ref (adr w 120)), (2, .ref (adr w 110)), (1, .ref (adr w 0)), (0, .ref b)]) [0, 3, 4, 5, 6] rfl ?_
    exact hnext B F2 hCB hMB
  · obtain ⟨e1, e2⟩ := hzz h
    refine q_aload_n C 3 dL_law_855 rfl ?_
    refine q_iconst C 0 dL_law_856 ?_
    refine q_lald C kd120 ⟨by decide, by rw [ln120]; decide⟩ dL_law_857 ?_
    rw [e1]
    refine q_iload C 0 dL_law_858 rfl ?_
    refine q_i2l C dL_law_860 ?_
    refine q_ltop (z' := wI (loadZ A (sc xs (i + 1)))) (by rw [e2]; rfl) ?_
    refine q_lcmps (x := iL (wI _)) C dL_law_861 ?_
    refine q_if_eq C 867 dL_law_862 ⟨by decide, by decide⟩ (by decide) (fun _ => ?_) (fun h => absurd rfl h)
    refine q_goto C 1786 dL_law_867 (by decide) ?_
    refine q_iinc (lv' := [(4, .int (iI (i + 5))), (6, .int (iI z2)), (5, .int (iI (loadT A (sc xs (i + 1))))), (3, .ref (adr w 120)), (2, .ref (adr w 110)), (1, .ref (adr w 0)), (0, .ref b)]) C 2 dL_law_1786 rfl (by decide) rfl ?_
    refine q_goto C 23 dL_law_1789 (by decide) ?_
    refine q_lv (lv' := [(4, .int (iI (i + 5))), (3, .ref (adr w 120)), (2, .ref (adr w 110)), (1, .ref (adr w 0)), (0, .ref b)]) [0, 3, 4, 5, 6] rfl ?_
    exact hnext B F2 hCB hMB

set_option maxRecDepth 100000 in
set_option maxHeartbeats 4000000 in
theorem law_12 (hC : LC p l s m meth c b L xs w) {i : Int} {k n : Nat} {F : FF} {A : AS} (hi : 0 ≤ i ∧ i + 5 ≤ (L : Int)) (hk : k + 1 ≤ 601024) (hn : n + 6 ≤ 7293034) (hA : CI F A) (hM : MI F A) (hnext : ∀ (B : AS) (G : FF), CI G B → MI G B → Wq p l e room_1 s m #[Value.ref b] below meth c Qf w (k + 1) (n + 6) 9 23 [(4, .int (iI (i + 5))), (3, .ref (adr w 120)), (2, .ref (adr w 110)), (1, .ref (adr w 0)), (0, .ref b)] [] G) : Wq p l e room_1 s m #[Value.ref b] below meth c Qf w k n 9 870 [(4, .int (iI i)), (3, .ref (adr w 120)), (2, .ref (adr w 110)), (1, .ref (adr w 0)), (0, .ref b)] [] F := by
  obtain ⟨C, hl, hX, hbl, hbA, hL, hwb⟩ := hC
  have hV := hA.v
  refine q_aload_n C 3 dL_law_870 rfl ?_
  refine q_aload_n C 4 dL_law_871 rfl ?_
  refine q_iload C 0 dL_law_872 rfl ?_
  refine q_iconst C 1 dL_law_874 ?_
  refine q_iadd C dL_law_875 ?_
  refine q_sld C hX hbl hbA ⟨by omega, by omega⟩ dL_law_876 ?_
  refine q_aload_n C 1 dL_law_877 rfl ?_
  refine q_cW (q_runW (As := [.ref (adr w 0), .int (iI (sc xs (i + 1))), .ref (adr w 120)]) (rest := []) C (k_L_write l hl hA (sc_in _ _)) wd_743 wd_742 wd_76 wd_741 nd_L_write rfl (by decide) ⟨hk, hn⟩ rfl (Nat.le_of_ble_eq_true rfl) dL_law_878) (fun z F1 hp => ?_)
  obtain ⟨hz1, hN1, hF1⟩ := hp
  subst hz1
  have hM1 := hM.kpL hF1
  refine q_istore (lv' := [(5, .int (iI (writeT A (sc xs (i + 1))))), (4, .int (iI i)), (3, .ref (adr w 120)), (2, .ref (adr w 110)), (1, .ref (adr w 0)), (0, .ref b)]) C dL_law_881 (by decide) rfl ?_
  refine q_aload_n C 3 dL_law_883 rfl ?_
  refine q_aload_n C 5 dL_law_884 rfl ?_
  refine q_iload C 1 dL_law_885 rfl ?_
  refine q_iconst C 1 dL_law_887 ?_
  refine q_iadd C dL_law_888 ?_
  refine q_sld C hX hbl hbA ⟨by omega, by omega⟩ dL_law_889 ?_
  refine q_cI (q_runV (As := [.int (iI (sc xs (i + 1)))]) (rest := []) C (k_X4_write l hM1 hV (sc_in _ _)) kd110 (by decide) rfl wd_1127 wd_1125 wd_1126 wd_81 wd_1124 nd_X4_write rfl (by decide) ⟨hk, hn⟩ rfl (Nat.le_of_ble_eq_true rfl) dL_law_890) ?_
  rintro z2 F2 hp2
  obtain ⟨hth, hzz, B, hCB, hMB⟩ := law_step hN1 hp2
  refine q_istore (lv' := [(6, .int (iI z2)), (5, .int (iI (writeT A (sc xs (i + 1))))), (4, .int (iI i)), (3, .ref (adr w 120)), (2, .ref (adr w 110)), (1, .ref (adr w 0)), (0, .ref b)]) C dL_law_893 (by decide) rfl ?_
  refine q_aload_n C 4 dL_law_895 rfl ?_
  refine q_cI (q_runV (As := []) (rest := []) C (k_X4_thrown l) kd110 (by decide) rfl wd_920 wd_918 wd_919 wd_81 wd_917 nd_X4_thrown rfl (by decide) ⟨hk, hn⟩ rfl (Nat.le_of_ble_eq_true rfl) dL_law_896) ?_
  rintro z3 F3 ⟨hz3, rfl⟩
  rw [hth] at hz3
  subst hz3
  have hTr := writeT_r A (sc xs (i + 1))
  refine q_iload C 1 dL_law_899 rfl ?_
  refine q_icmp_eq C 906 dL_law_901 ⟨by omega, by omega⟩ ⟨by omega, by omega⟩ (by decide) (fun _ => ?_) (fun h => absurd rfl h)
  refine q_iload C 1 dL_law_906 rfl ?_
  refine q_if_ne C 923 dL_law_908 ⟨by omega, by omega⟩ (by decide) (fun h => ?_) (fun h => ?_)
  · refine q_goto C 1786 dL_law_923 (by decide) ?_
    refine q_iinc (lv' := [(4, .int (iI (i + 5))), (6, .int (iI z2)), (5, .int (iI (writeT A (sc xs (i + 1))))), (3, .ref (adr w 120)), (2, .ref (adr w 110)), (1, .ref (adr w 0)), (0, .ref b)]) C 2 dL_law_1786 rfl (by decide) rfl ?_
    refine q_goto C 23 dL_law_1789 (by decide) ?_
    refine q_lv (lv' := [(4, .int (iI (i + 5))), (3, .ref (adr w 120)), (2, .ref (adr w 110)), (1, .ref (adr w 0)), (0, .ref b)]) [0, 3, 4, 5, 6] rfl ?_
    exact hnext B F2 hCB hMB
  · obtain ⟨e1, e2⟩ := hzz h
    refine q_aload_n C 3 dL_law_911 rfl ?_
    refine q_iconst C 0 dL_law_912 ?_
    refine q_lald C kd120 ⟨by decide, by rw [ln120]; decide⟩ dL_law_913 ?_
    rw [e1]
    refine q_iload C 0 dL_law_914 rfl ?_
    refine q_i2l C dL_law_916 ?_
    refine q_ltop (z' := wI (writeZ A (sc xs (i + 1)))) (by rw [e2]; rfl) ?_
    refine q_lcmps (x := iL (wI _)) C dL_law_917 ?_
    refine q_if_eq C 923 dL_law_918 ⟨by decide, by decide⟩ (by decide) (fun _ => ?_) (fun h => absurd rfl h)
    refine q_goto C 1786 dL_law_923 (by decide) ?_
    refine q_iinc (lv' := [(4, .int (iI (i + 5))), (6, .int (iI z2)), (5, .int (iI (writeT A (sc xs (i + 1))))), (3, .ref (adr w 120)), (2, .ref (adr w 110)), (1, .ref (adr w 0)), (0, .ref b)]) C 2 dL_law_1786 rfl (by decide) rfl ?_
    refine q_goto C 23 dL_law_1789 (by decide) ?_
    refine q_lv (lv' := [(4, .int (iI (i + 5))), (3, .ref (adr w 120)), (2, .ref (adr w 110)), (1, .ref (adr w 0)), (0, .ref b)]) [0, 3, 4, 5, 6] rfl ?_
    exact hnext B F2 hCB hMB

set_option maxRecDepth 100000 in
set_option maxHeartbeats 4000000 in
theorem law_13 (hC : LC p l s m meth c b L xs w) {i : Int} {k n : Nat} {F : FF} {A : AS} (hi : 0 ≤ i ∧ i + 5 ≤ (L : Int)) (hk : k + 1 ≤ 601024) (hn : n + 6 ≤ 7293034) (hA : CI F A) (hM : MI F A) (hnext : ∀ (B : AS) (G : FF), CI G B → MI G B → Wq p l e room_1 s m #[Value.ref b] below meth c Qf w (k + 1) (n + 6) 9 23 [(4, .int (iI (i + 5))), (3, .ref (adr w 120)), (2, .ref (adr w 110)), (1, .ref (adr w 0)), (0, .ref b)] [] G) : Wq p l e room_1 s m #[Value.ref b] below meth c Qf w k n 9 926 [(4, .int (iI i)), (3, .ref (adr w 120)), (2, .ref (adr w 110)), (1, .ref (adr w 0)), (0, .ref b)] [] F := by
  obtain ⟨C, hl, hX, hbl, hbA, hL, hwb⟩ := hC
  have hV := hA.v
  refine q_aload_n C 3 dL_law_926 rfl ?_
  refine q_aload_n C 4 dL_law_927 rfl ?_
  refine q_iload C 0 dL_law_928 rfl ?_
  refine q_iconst C 1 dL_law_930 ?_
  refine q_iadd C dL_law_931 ?_
  refine q_sld C hX hbl hbA ⟨by omega, by omega⟩ dL_law_932 ?_
  refine q_aload_n C 1 dL_law_933 rfl ?_
  refine q_cW (q_runW (As := [.ref (adr w 0), .int (iI (sc xs (i + 1))), .ref (adr w 120)]) (rest := []) C (k_L_keep l hl hA (sc_in _ _)) wd_762 wd_761 wd_76 wd_760 nd_L_keep rfl (by decide) ⟨hk, hn⟩ rfl (Nat.le_of_ble_eq_true rfl) dL_law_934) (fun z F1 hp => ?_)
  obtain ⟨hz1, hN1, hF1⟩ := hp
  subst hz1
  have hM1 := hM.kpL hF1
  refine q_istore (lv' := [(5, .int (iI (keepT A (sc xs (i + 1))))), (4, .int (iI i)), (3, .ref (adr w 120)), (2, .ref (adr w 110)), (1, .ref (adr w 0)), (0, .ref b)]) C dL_law_937 (by decide) rfl ?_
  refine q_aload_n C 3 dL_law_939 rfl ?_
  refine q_aload_n C 5 dL_law_940 rfl ?_
  refine q_iload C 1 dL_law_941 rfl ?_
  refine q_iconst C 1 dL_law_943 ?_
  refine q_iadd C dL_law_944 ?_
  refine q_sld C hX hbl hbA ⟨by omega, by omega⟩ dL_law_945 ?_
  refine q_cI (q_runV (As := [.int (iI (sc xs (i + 1)))]) (rest := []) C (k_X4_keep l hM1 hV (sc_in _ _)) kd110 (by decide) rfl wd_1139 wd_1137 wd_1138 wd_81 wd_1136 nd_X4_keep rfl (by decide) ⟨hk, hn⟩ rfl (Nat.le_of_ble_eq_true rfl) dL_law_946) ?_
  rintro z2 F2 hp2
  obtain ⟨hth, hzz, B, hCB, hMB⟩ := law_step hN1 hp2
  refine q_istore (lv' := [(6, .int (iI z2)), (5, .int (iI (keepT A (sc xs (i + 1))))), (4, .int (iI i)), (3, .ref (adr w 120)), (2, .ref (adr w 110)), (1, .ref (adr w 0)), (0, .ref b)]) C dL_law_949 (by decide) rfl ?_
  refine q_aload_n C 4 dL_law_951 rfl ?_
  refine q_cI (q_runV (As := []) (rest := []) C (k_X4_thrown l) kd110 (by decide) rfl wd_920 wd_918 wd_919 wd_81 wd_917 nd_X4_thrown rfl (by decide) ⟨hk, hn⟩ rfl (Nat.le_of_ble_eq_true rfl) dL_law_952) ?_
  rintro z3 F3 ⟨hz3, rfl⟩
  rw [hth] at hz3
  subst hz3
  have hTr := keepT_r A (sc xs (i + 1))
  refine q_iload C 1 dL_law_955 rfl ?_
  refine q_icmp_eq C 962 dL_law_957 ⟨by omega, by omega⟩ ⟨by omega, by omega⟩ (by decide) (fun _ => ?_) (fun h => absurd rfl h)
  refine q_iload C 1 dL_law_962 rfl ?_
  refine q_if_ne C 979 dL_law_964 ⟨by omega, by omega⟩ (by decide) (fun h => ?_) (fun h => ?_)
  · refine q_goto C 1786 dL_law_979 (by decide) ?_
    refine q_iinc (lv' := [(4, .int (iI (i + 5))), (6, .int (iI z2)), (5, .int (iI (keepT A (sc xs (i + 1))))), (3, .ref (adr w 120)), (2, .ref (adr w 110)), (1, .ref (adr w 0)), (0, .ref b)]) C 2 dL_law_1786 rfl (by decide) rfl ?_
    refine q_goto C 23 dL_law_1789 (by decide) ?_
    refine q_lv (lv' := [(4, .int (iI (i + 5))), (3, .ref (adr w 120)), (2, .ref (adr w 110)), (1, .ref (adr w 0)), (0, .ref b)]) [0, 3, 4, 5, 6] rfl ?_
    exact hnext B F2 hCB hMB
  · obtain ⟨e1, e2⟩ := hzz h
    refine q_aload_n C 3 dL_law_967 rfl ?_
    refine q_iconst C 0 dL_law_968 ?_
    refine q_lald C kd120 ⟨by decide, by rw [ln120]; decide⟩ dL_law_969 ?_
    rw [e1]
    refine q_iload C 0 dL_law_970 rfl ?_
    refine q_i2l C dL_law_972 ?_
    refine q_ltop (z' := wI (keepZ A (sc xs (i + 1)))) (by rw [e2]; rfl) ?_
    refine q_lcmps (x := iL (wI _)) C dL_law_973 ?_
    refine q_if_eq C 979 dL_law_974 ⟨by decide, by decide⟩ (by decide) (fun _ => ?_) (fun h => absurd rfl h)
    refine q_goto C 1786 dL_law_979 (by decide) ?_
    refine q_iinc (lv' := [(4, .int (iI (i + 5))), (6, .int (iI z2)), (5, .int (iI (keepT A (sc xs (i + 1))))), (3, .ref (adr w 120)), (2, .ref (adr w 110)), (1, .ref (adr w 0)), (0, .ref b)]) C 2 dL_law_1786 rfl (by decide) rfl ?_
    refine q_goto C 23 dL_law_1789 (by decide) ?_
    refine q_lv (lv' := [(4, .int (iI (i + 5))), (3, .ref (adr w 120)), (2, .ref (adr w 110)), (1, .ref (adr w 0)), (0, .ref b)]) [0, 3, 4, 5, 6] rfl ?_
    exact hnext B F2 hCB hMB

set_option maxRecDepth 100000 in
set_option maxHeartbeats 4000000 in
theorem law_14 (hC : LC p l s m meth c b L xs w) {i : Int} {k n : Nat} {F : FF} {A : AS} (hi : 0 ≤ i ∧ i + 5 ≤ (L : Int)) (hk : k + 1 ≤ 601024) (hn : n + 6 ≤ 7293034) (hA : CI F A) (hM : MI F A) (hnext : ∀ (B : AS) (G : FF), CI G B → MI G B → Wq p l e room_1 s m #[Value.ref b] below meth c Qf w (k + 1) (n + 6) 9 23 [(4, .int (iI (i + 5))), (3, .ref (adr w 120)), (2, .ref (adr w 110)), (1, .ref (adr w 0)), (0, .ref b)] [] G) : Wq p l e room_1 s m #[Value.ref b] below meth c Qf w k n 9 982 [(4, .int (iI i)), (3, .ref (adr w 120)), (2, .ref (adr w 110)), (1, .ref (adr w 0)), (0, .ref b)] [] F := by
  obtain ⟨C, hl, hX, hbl, hbA, hL, hwb⟩ := hC
  have hV := hA.v
  refine q_aload_n C 3 dL_law_982 rfl ?_
  refine q_aload_n C 4 dL_law_983 rfl ?_
  refine q_iload C 0 dL_law_984 rfl ?_
  refine q_iconst C 1 dL_law_986 ?_
  refine q_iadd C dL_law_987 ?_
  refine q_sld C hX hbl hbA ⟨by omega, by omega⟩ dL_law_988 ?_
  refine q_aload_n C 1 dL_law_989 rfl ?_
  refine q_cW (q_runW (As := [.ref (adr w 0), .int (iI (sc xs (i + 1))), .ref (adr w 120)]) (rest := []) C (k_L_goBack l hl hA (sc_in _ _)) wd_773 wd_772 wd_76 wd_771 nd_L_goBack rfl (by decide) ⟨hk, hn⟩ rfl (Nat.le_of_ble_eq_true rfl) dL_law_990) (fun z F1 hp => ?_)
  obtain ⟨hz1, hN1, hF1⟩ := hp
  subst hz1
  have hM1 := hM.kpL hF1
  refine q_istore (lv' := [(5, .int (iI (goBackT A (sc xs (i + 1))))), (4, .int (iI i)), (3, .ref (adr w 120)), (2, .ref (adr w 110)), (1, .ref (adr w 0)), (0, .ref b)]) C dL_law_993 (by decide) rfl ?_
  refine q_aload_n C 3 dL_law_995 rfl ?_
  refine q_aload_n C 5 dL_law_996 rfl ?_
  refine q_iload C 1 dL_law_997 rfl ?_
  refine q_iconst C 1 dL_law_999 ?_
  refine q_iadd C dL_law_1000 ?_
  refine q_sld C hX hbl hbA ⟨by omega, by omega⟩ dL_law_1001 ?_
  refine q_cI (q_runV (As := [.int (iI (sc xs (i + 1)))]) (rest := []) C (k_X4_goBack l hM1 hV (sc_in _ _)) kd110 (by decide) rfl wd_1147 wd_1145 wd_1146 wd_81 wd_1144 nd_X4_goBack rfl (by decide) ⟨hk, hn⟩ rfl (Nat.le_of_ble_eq_true rfl) dL_law_1002) ?_
  rintro z2 F2 hp2
  obtain ⟨hth, hzz, B, hCB, hMB⟩ := law_step hN1 hp2
  refine q_istore (lv' := [(6, .int (iI z2)), (5, .int (iI (goBackT A (sc xs (i + 1))))), (4, .int (iI i)), (3, .ref (adr w 120)), (2, .ref (adr w 110)), (1, .ref (adr w 0)), (0, .ref b)]) C dL_law_1005 (by decide) rfl ?_
  refine q_aload_n C 4 dL_law_1007 rfl ?_
  refine q_cI (q_runV (As := []) (rest := []) C (k_X4_thrown l) kd110 (by decide) rfl wd_920 wd_918 wd_919 wd_81 wd_917 nd_X4_thrown rfl (by decide) ⟨hk, hn⟩ rfl (Nat.le_of_ble_eq_true rfl) dL_law_1008) ?_
  rintro z3 F3 ⟨hz3, rfl⟩
  rw [hth] at hz3
  subst hz3
  have hTr := goBackT_r A (sc xs (i + 1))
  refine q_iload C 1 dL_law_1011 rfl ?_
  refine q_icmp_eq C 1018 dL_law_1013 ⟨by omega, by omega⟩ ⟨by omega, by omega⟩ (by decide) (fun _ => ?_) (fun h => absurd rfl h)
  refine q_iload C 1 dL_law_1018 rfl ?_
  refine q_if_ne C 1035 dL_law_1020 ⟨by omega, by omega⟩ (by decide) (fun h => ?_) (fun h => ?_)
  · refine q_goto C 1786 dL_law_1035 (by decide) ?_
    refine q_iinc (lv' := [(4, .int (iI (i + 5))), (6, .int (iI z2)), (5, .int (iI (goBackT A (sc xs (i + 1))))), (3, .ref (adr w 120)), (2, .ref (adr w 110)), (1, .ref (adr w 0)), (0, .ref b)]) C 2 dL_law_1786 rfl (by decide) rfl ?_
    refine q_goto C 23 dL_law_1789 (by decide) ?_
    refine q_lv (lv' := [(4, .int (iI (i + 5))), (3, .ref (adr w 120)), (2, .ref (adr w 110)), (1, .ref (adr w 0)), (0, .ref b)]) [0, 3, 4, 5, 6] rfl ?_
    exact hnext B F2 hCB hMB
  · obtain ⟨e1, e2⟩ := hzz h
    refine q_aload_n C 3 dL_law_1023 rfl ?_
    refine q_iconst C 0 dL_law_1024 ?_
    refine q_lald C kd120 ⟨by decide, by rw [ln120]; decide⟩ dL_law_1025 ?_
    rw [e1]
    refine q_iload C 0 dL_law_1026 rfl ?_
    refine q_i2l C dL_law_1028 ?_
    refine q_ltop (z' := wI (goBackZ A (sc xs (i + 1)))) (by rw [e2]; rfl) ?_
    refine q_lcmps (x := iL (wI _)) C dL_law_1029 ?_
    refine q_if_eq C 1035 dL_law_1030 ⟨by decide, by decide⟩ (by decide) (fun _ => ?_) (fun h => absurd rfl h)
    refine q_goto C 1786 dL_law_1035 (by decide) ?_
    refine q_iinc (lv' := [(4, .int (iI (i + 5))), (6, .int (iI z2)), (5, .int (iI (goBackT A (sc xs (i + 1))))), (3, .ref (adr w 120)), (2, .ref (adr w 110)), (1, .ref (adr w 0)), (0, .ref b)]) C 2 dL_law_1786 rfl (by decide) rfl ?_
    refine q_goto C 23 dL_law_1789 (by decide) ?_
    refine q_lv (lv' := [(4, .int (iI (i + 5))), (3, .ref (adr w 120)), (2, .ref (adr w 110)), (1, .ref (adr w 0)), (0, .ref b)]) [0, 3, 4, 5, 6] rfl ?_
    exact hnext B F2 hCB hMB

set_option maxRecDepth 100000 in
set_option maxHeartbeats 4000000 in
theorem law_15 (hC : LC p l s m meth c b L xs w) {i : Int} {k n : Nat} {F : FF} {A : AS} (hi : 0 ≤ i ∧ i + 5 ≤ (L : Int)) (hk : k + 1 ≤ 601024) (hn : n + 6 ≤ 7293034) (hA : CI F A) (hM : MI F A) (hnext : ∀ (B : AS) (G : FF), CI G B → MI G B → Wq p l e room_1 s m #[Value.ref b] below meth c Qf w (k + 1) (n + 6) 9 23 [(4, .int (iI (i + 5))), (3, .ref (adr w 120)), (2, .ref (adr w 110)), (1, .ref (adr w 0)), (0, .ref b)] [] G) : Wq p l e room_1 s m #[Value.ref b] below meth c Qf w k n 9 1038 [(4, .int (iI i)), (3, .ref (adr w 120)), (2, .ref (adr w 110)), (1, .ref (adr w 0)), (0, .ref b)] [] F := by
  obtain ⟨C, hl, hX, hbl, hbA, hL, hwb⟩ := hC
  have hV := hA.v
  refine q_aload_n C 3 dL_law_1038 rfl ?_
  refine q_aload_n C 1 dL_law_1039 rfl ?_
  refine q_cW (q_runW (As := [.ref (adr w 0), .ref (adr w 120)]) (rest := []) C (k_L_undo l hl hA ) wd_781 wd_780 wd_76 wd_779 nd_L_undo rfl (by decide) ⟨hk, hn⟩ rfl (Nat.le_of_ble_eq_true rfl) dL_law_1040) (fun z F1 hp => ?_)
  obtain ⟨hz1, hN1, hF1⟩ := hp
  subst hz1
  have hM1 := hM.kpL hF1
  refine q_istore (lv' := [(5, .int (iI (undoT A))), (4, .int (iI i)), (3, .ref (adr w 120)), (2, .ref (adr w 110)), (1, .ref (adr w 0)), (0, .ref b)]) C dL_law_1043 (by decide) rfl ?_
  refine q_aload_n C 3 dL_law_1045 rfl ?_
  refine q_cI (q_runV (As := []) (rest := []) C (k_X4_undo l hM1 hV ) kd110 (by decide) rfl wd_1151 wd_1149 wd_1150 wd_81 wd_1148 nd_X4_undo rfl (by decide) ⟨hk, hn⟩ rfl (Nat.le_of_ble_eq_true rfl) dL_law_1046) ?_
  rintro z2 F2 hp2
  obtain ⟨hth, hzz, B, hCB, hMB⟩ := law_step hN1 hp2
  refine q_istore (lv' := [(6, .int (iI z2)), (5, .int (iI (undoT A))), (4, .int (iI i)), (3, .ref (adr w 120)), (2, .ref (adr w 110)), (1, .ref (adr w 0)), (0, .ref b)]) C dL_law_1049 (by decide) rfl ?_
  refine q_aload_n C 4 dL_law_1051 rfl ?_
  refine q_cI (q_runV (As := []) (rest := []) C (k_X4_thrown l) kd110 (by decide) rfl wd_920 wd_918 wd_919 wd_81 wd_917 nd_X4_thrown rfl (by decide) ⟨hk, hn⟩ rfl (Nat.le_of_ble_eq_true rfl) dL_law_1052) ?_
  rintro z3 F3 ⟨hz3, rfl⟩
  rw [hth] at hz3
  subst hz3
  have hTr := undoT_r A
  refine q_iload C 1 dL_law_1055 rfl ?_
  refine q_icmp_eq C 1062 dL_law_1057 ⟨by omega, by omega⟩ ⟨by omega, by omega⟩ (by decide) (fun _ => ?_) (fun h => absurd rfl h)
  refine q_iload C 1 dL_law_1062 rfl ?_
  refine q_if_ne C 1079 dL_law_1064 ⟨by omega, by omega⟩ (by decide) (fun h => ?_) (fun h => ?_)
  · refine q_goto C 1786 dL_law_1079 (by decide) ?_
    refine q_iinc (lv' := [(4, .int (iI (i + 5))), (6, .int (iI z2)), (5, .int (iI (undoT A))), (3, .ref (adr w 120)), (2, .ref (adr w 110)), (1, .ref (adr w 0)), (0, .ref b)]) C 2 dL_law_1786 rfl (by decide) rfl ?_
    refine q_goto C 23 dL_law_1789 (by decide) ?_
    refine q_lv (lv' := [(4, .int (iI (i + 5))), (3, .ref (adr w 120)), (2, .ref (adr w 110)), (1, .ref (adr w 0)), (0, .ref b)]) [0, 3, 4, 5, 6] rfl ?_
    exact hnext B F2 hCB hMB
  · obtain ⟨e1, e2⟩ := hzz h
    refine q_aload_n C 3 dL_law_1067 rfl ?_
    refine q_iconst C 0 dL_law_1068 ?_
    refine q_lald C kd120 ⟨by decide, by rw [ln120]; decide⟩ dL_law_1069 ?_
    rw [e1]
    refine q_iload C 0 dL_law_1070 rfl ?_
    refine q_i2l C dL_law_1072 ?_
    refine q_ltop (z' := wI (undoZ A)) (by rw [e2]; rfl) ?_
    refine q_lcmps (x := iL (wI _)) C dL_law_1073 ?_
    refine q_if_eq C 1079 dL_law_1074 ⟨by decide, by decide⟩ (by decide) (fun _ => ?_) (fun h => absurd rfl h)
    refine q_goto C 1786 dL_law_1079 (by decide) ?_
    refine q_iinc (lv' := [(4, .int (iI (i + 5))), (6, .int (iI z2)), (5, .int (iI (undoT A))), (3, .ref (adr w 120)), (2, .ref (adr w 110)), (1, .ref (adr w 0)), (0, .ref b)]) C 2 dL_law_1786 rfl (by decide) rfl ?_
    refine q_goto C 23 dL_law_1789 (by decide) ?_
    refine q_lv (lv' := [(4, .int (iI (i + 5))), (3, .ref (adr w 120)), (2, .ref (adr w 110)), (1, .ref (adr w 0)), (0, .ref b)]) [0, 3, 4, 5, 6] rfl ?_
    exact hnext B F2 hCB hMB

set_option maxRecDepth 100000 in
set_option maxHeartbeats 4000000 in
theorem law_16 (hC : LC p l s m meth c b L xs w) {i : Int} {k n : Nat} {F : FF} {A : AS} (hi : 0 ≤ i ∧ i + 5 ≤ (L : Int)) (hk : k + 1 ≤ 601024) (hn : n + 6 ≤ 7293034) (hA : CI F A) (hM : MI F A) (hnext : ∀ (B : AS) (G : FF), CI G B → MI G B → Wq p l e room_1 s m #[Value.ref b] below meth c Qf w (k + 1) (n + 6) 9 23 [(4, .int (iI (i + 5))), (3, .ref (adr w 120)), (2, .ref (adr w 110)), (1, .ref (adr w 0)), (0, .ref b)] [] G) : Wq p l e room_1 s m #[Value.ref b] below meth c Qf w k n 9 1082 [(4, .int (iI i)), (3, .ref (adr w 120)), (2, .ref (adr w 110)), (1, .ref (adr w 0)), (0, .ref b)] [] F := by
  obtain ⟨C, hl, hX, hbl, hbA, hL, hwb⟩ := hC
  have hV := hA.v
  refine q_aload_n C 3 dL_law_1082 rfl ?_
  refine q_aload_n C 4 dL_law_1083 rfl ?_
  refine q_iload C 0 dL_law_1084 rfl ?_
  refine q_iconst C 1 dL_law_1086 ?_
  refine q_iadd C dL_law_1087 ?_
  refine q_sld C hX hbl hbA ⟨by omega, by omega⟩ dL_law_1088 ?_
  refine q_aload_n C 4 dL_law_1089 rfl ?_
  refine q_iload C 0 dL_law_1090 rfl ?_
  refine q_iconst C 2 dL_law_1092 ?_
  refine q_iadd C dL_law_1093 ?_
  refine q_sld C hX hbl hbA ⟨by omega, by omega⟩ dL_law_1094 ?_
  refine q_aload_n C 1 dL_law_1095 rfl ?_
  refine q_cW (q_runW (As := [.ref (adr w 0), .int (iI (sc xs (i + 1))), .int (iI (sc xs (i + 2))), .ref (adr w 120)]) (rest := []) C (k_L_wordOf l hl hA (sc_in _ _) (sc_in _ _)) wd_793 wd_792 wd_76 wd_791 nd_L_wordOf rfl (by decide) ⟨hk, hn⟩ rfl (Nat.le_of_ble_eq_true rfl) dL_law_1096) (fun z F1 hp => ?_)
  obtain ⟨hz1, hN1, hF1⟩ := hp
  subst hz1
  have hM1 := hM.kpL hF1
  refine q_istore (lv' := [(5, .int (iI (wordOfT A (sc xs (i + 1)) (sc xs (i + 2))))), (4, .int (iI i)), (3, .ref (adr w 120)), (2, .ref (adr w 110)), (1, .ref (adr w 0)), (0, .ref b)]) C dL_law_1099 (by decide) rfl ?_
  refine q_aload_n C 3 dL_law_1101 rfl ?_
  refine q_aload_n C 5 dL_law_1102 rfl ?_
  refine q_iload C 1 dL_law_1103 rfl ?_
  refine q_iconst C 1 dL_law_1105 ?_
  refine q_iadd C dL_law_1106 ?_
  refine q_sld C hX hbl hbA ⟨by omega, by omega⟩ dL_law_1107 ?_
  refine q_aload_n C 5 dL_law_1108 rfl ?_
  refine q_iload C 1 dL_law_1109 rfl ?_
  refine q_iconst C 2 dL_law_1111 ?_
  refine q_iadd C dL_law_1112 ?_
  refine q_sld C hX hbl hbA ⟨by omega, by omega⟩ dL_law_1113 ?_
  refine q_cI (q_runV (As := [.int (iI (sc xs (i + 1))), .int (iI (sc xs (i + 2)))]) (rest := []) C (k_X4_wordOf l hM1 hV (sc_in _ _) (sc_in _ _)) kd110 (by decide) rfl wd_1155 wd_1153 wd_1154 wd_81 wd_1152 nd_X4_wordOf rfl (by decide) ⟨hk, hn⟩ rfl (Nat.le_of_ble_eq_true rfl) dL_law_1114) ?_
  rintro z2 F2 hp2
  obtain ⟨hth, hzz, B, hCB, hMB⟩ := law_step hN1 hp2
  refine q_istore (lv' := [(6, .int (iI z2)), (5, .int (iI (wordOfT A (sc xs (i + 1)) (sc xs (i + 2))))), (4, .int (iI i)), (3, .ref (adr w 120)), (2, .ref (adr w 110)), (1, .ref (adr w 0)), (0, .ref b)]) C dL_law_1117 (by decide) rfl ?_
  refine q_aload_n C 4 dL_law_1119 rfl ?_
  refine q_cI (q_runV (As := []) (rest := []) C (k_X4_thrown l) kd110 (by decide) rfl wd_920 wd_918 wd_919 wd_81 wd_917 nd_X4_thrown rfl (by decide) ⟨hk, hn⟩ rfl (Nat.le_of_ble_eq_true rfl) dL_law_1120) ?_
  rintro z3 F3 ⟨hz3, rfl⟩
  rw [hth] at hz3
  subst hz3
  have hTr := wordOfT_r A (sc xs (i + 1)) (sc xs (i + 2))
  refine q_iload C 1 dL_law_1123 rfl ?_
  refine q_icmp_eq C 1130 dL_law_1125 ⟨by omega, by omega⟩ ⟨by omega, by omega⟩ (by decide) (fun _ => ?_) (fun h => absurd rfl h)
  refine q_iload C 1 dL_law_1130 rfl ?_
  refine q_if_ne C 1147 dL_law_1132 ⟨by omega, by omega⟩ (by decide) (fun h => ?_) (fun h => ?_)
  · refine q_goto C 1786 dL_law_1147 (by decide) ?_
    refine q_iinc (lv' := [(4, .int (iI (i + 5))), (6, .int (iI z2)), (5, .int (iI (wordOfT A (sc xs (i + 1)) (sc xs (i + 2))))), (3, .ref (adr w 120)), (2, .ref (adr w 110)), (1, .ref (adr w 0)), (0, .ref b)]) C 2 dL_law_1786 rfl (by decide) rfl ?_
    refine q_goto C 23 dL_law_1789 (by decide) ?_
    refine q_lv (lv' := [(4, .int (iI (i + 5))), (3, .ref (adr w 120)), (2, .ref (adr w 110)), (1, .ref (adr w 0)), (0, .ref b)]) [0, 3, 4, 5, 6] rfl ?_
    exact hnext B F2 hCB hMB
  · obtain ⟨e1, e2⟩ := hzz h
    refine q_aload_n C 3 dL_law_1135 rfl ?_
    refine q_iconst C 0 dL_law_1136 ?_
    refine q_lald C kd120 ⟨by decide, by rw [ln120]; decide⟩ dL_law_1137 ?_
    rw [e1]
    refine q_iload C 0 dL_law_1138 rfl ?_
    refine q_i2l C dL_law_1140 ?_
    refine q_ltop (z' := wI (wordOfZ A (sc xs (i + 1)) (sc xs (i + 2)))) (by rw [e2]; rfl) ?_
    refine q_lcmps (x := iL (wI _)) C dL_law_1141 ?_
    refine q_if_eq C 1147 dL_law_1142 ⟨by decide, by decide⟩ (by decide) (fun _ => ?_) (fun h => absurd rfl h)
    refine q_goto C 1786 dL_law_1147 (by decide) ?_
    refine q_iinc (lv' := [(4, .int (iI (i + 5))), (6, .int (iI z2)), (5, .int (iI (wordOfT A (sc xs (i + 1)) (sc xs (i + 2))))), (3, .ref (adr w 120)), (2, .ref (adr w 110)), (1, .ref (adr w 0)), (0, .ref b)]) C 2 dL_law_1786 rfl (by decide) rfl ?_
    refine q_goto C 23 dL_law_1789 (by decide) ?_
    refine q_lv (lv' := [(4, .int (iI (i + 5))), (3, .ref (adr w 120)), (2, .ref (adr w 110)), (1, .ref (adr w 0)), (0, .ref b)]) [0, 3, 4, 5, 6] rfl ?_
    exact hnext B F2 hCB hMB

set_option maxRecDepth 100000 in
set_option maxHeartbeats 4000000 in
theorem law_17 (hC : LC p l s m meth c b L xs w) {i : Int} {k n : Nat} {F : FF} {A : AS} (hi : 0 ≤ i ∧ i + 5 ≤ (L : Int)) (hk : k + 1 ≤ 601024) (hn : n + 6 ≤ 7293034) (hA : CI F A) (hM : MI F A) (hnext : ∀ (B : AS) (G : FF), CI G B → MI G B → Wq p l e room_1 s m #[Value.ref b] below meth c Qf w (k + 1) (n + 6) 9 23 [(4, .int (iI (i + 5))), (3, .ref (adr w 120)), (2, .ref (adr w 110)), (1, .ref (adr w 0)), (0, .ref b)] [] G) : Wq p l e room_1 s m #[Value.ref b] below meth c Qf w k n 9 1150 [(4, .int (iI i)), (3, .ref (adr w 120)), (2, .ref (adr w 110)), (1, .ref (adr w 0)), (0, .ref b)] [] F := by
  obtain ⟨C, hl, hX, hbl, hbA, hL, hwb⟩ := hC
  have hV := hA.v
  refine q_aload_n C 3 dL_law_1150 rfl ?_
  refine q_aload_n C 4 dL_law_1151 rfl ?_
  refine q_iload C 0 dL_law_1152 rfl ?_
  refine q_iconst C 1 dL_law_1154 ?_
  refine q_iadd C dL_law_1155 ?_
  refine q_sld C hX hbl hbA ⟨by omega, by omega⟩ dL_law_1156 ?_
  refine q_aload_n C 4 dL_law_1157 rfl ?_
  refine q_iload C 0 dL_law_1158 rfl ?_
  refine q_iconst C 2 dL_law_1160 ?_
  refine q_iadd C dL_law_1161 ?_
  refine q_sld C hX hbl hbA ⟨by omega, by omega⟩ dL_law_1162 ?_
  refine q_aload_n C 4 dL_law_1163 rfl ?_
  refine q_iload C 0 dL_law_1164 rfl ?_
  refine q_iconst C 3 dL_law_1166 ?_
  refine q_iadd C dL_law_1167 ?_
  refine q_sld C hX hbl hbA ⟨by omega, by omega⟩ dL_law_1168 ?_
  refine q_aload_n C 1 dL_law_1169 rfl ?_
  refine q_cW (q_runW (As := [.ref (adr w 0), .int (iI (sc xs (i + 1))), .int (iI (sc xs (i + 2))), .int (iI (sc xs (i + 3))), .ref (adr w 120)]) (rest := []) C (k_L_at l hl hA (sc_in _ _) (sc_in _ _) (sc_in _ _)) wd_801 wd_800 wd_76 wd_799 nd_L_at rfl (by decide) ⟨hk, hn⟩ rfl (Nat.le_of_ble_eq_true rfl) dL_law_1170) (fun z F1 hp => ?_)
  obtain ⟨hz1, hN1, hF1⟩ := hp
  subst hz1
  have hM1 := hM.kpL hF1
  refine q_istore (lv' := [(5, .int (iI (atT A (sc xs (i + 1)) (sc xs (i + 2)) (sc xs (i + 3))))), (4, .int (iI i)), (3, .ref (adr w 120)), (2, .ref (adr w 110)), (1, .ref (adr w 0)), (0, .ref b)]) C dL_law_1173 (by decide) rfl ?_
  refine q_aload_n C 3 dL_law_1175 rfl ?_
  refine q_aload_n C 5 dL_law_1176 rfl ?_
  refine q_iload C 1 dL_law_1177 rfl ?_
  refine q_iconst C 1 dL_law_1179 ?_
  refine q_iadd C dL_law_1180 ?_
  refine q_sld C hX hbl hbA ⟨by omega, by omega⟩ dL_law_1181 ?_
  refine q_aload_n C 5 dL_law_1182 rfl ?_
  refine q_iload C 1 dL_law_1183 rfl ?_
  refine q_iconst C 2 dL_law_1185 ?_
  refine q_iadd C dL_law_1186 ?_
  refine q_sld C hX hbl hbA ⟨by omega, by omega⟩ dL_law_1187 ?_
  refine q_aload_n C 5 dL_law_1188 rfl ?_
  refine q_iload C 1 dL_law_1189 rfl ?_
  refine q_iconst C 3 dL_law_1191 ?_
  refine q_iadd C dL_law_1192 ?_
  refine q_sld C hX hbl hbA ⟨by omega, by omega⟩ dL_law_1193 ?_
  refine q_cI (q_runV (As := [.int (iI (sc xs (i + 1))), .int (iI (sc xs (i + 2))), .int (iI (sc xs (i + 3)))]) (rest := []) C (k_X4_at l hM1 hV (sc_in _ _) (sc_in _ _) (sc_in _ _)) kd110 (by decide) rfl wd_1163 wd_1161 wd_1162 wd_81 wd_1160 nd_X4_at rfl (by decide) ⟨hk, hn⟩ rfl (Nat.le_of_ble_eq_true rfl) dL_law_1194) ?_
  rintro z2 F2 hp2
  obtain ⟨hth, hzz, B, hCB, hMB⟩ := law_step hN1 hp2
  refine q_istore (lv' := [(6, .int (iI z2)), (5, .int (iI (atT A (sc xs (i + 1)) (sc xs (i + 2)) (sc xs (i + 3))))), (4, .int (iI i)), (3, .ref (adr w 120)), (2, .ref (adr w 110)), (1, .ref (adr w 0)), (0, .ref b)]) C dL_law_1197 (by decide) rfl ?_
  refine q_aload_n C 4 dL_law_1199 rfl ?_
  refine q_cI (q_runV (As := []) (rest := []) C (k_X4_thrown l) kd110 (by decide) rfl wd_920 wd_918 wd_919 wd_81 wd_917 nd_X4_thrown rfl (by decide) ⟨hk, hn⟩ rfl (Nat.le_of_ble_eq_true rfl) dL_law_1200) ?_
  rintro z3 F3 ⟨hz3, rfl⟩
  rw [hth] at hz3
  subst hz3
  have hTr := atT_r A (sc xs (i + 1)) (sc xs (i + 2)) (sc xs (i + 3))
  refine q_iload C 1 dL_law_1203 rfl ?_
  refine q_icmp_eq C 1210 dL_law_1205 ⟨by omega, by omega⟩ ⟨by omega, by omega⟩ (by decide) (fun _ => ?_) (fun h => absurd rfl h)
  refine q_iload C 1 dL_law_1210 rfl ?_
  refine q_if_ne C 1227 dL_law_1212 ⟨by omega, by omega⟩ (by decide) (fun h => ?_) (fun h => ?_)
  · refine q_goto C 1786 dL_law_1227 (by decide) ?_
    refine q_iinc (lv' := [(4, .int (iI (i + 5))), (6, .int (iI z2)), (5, .int (iI (atT A (sc xs (i + 1)) (sc xs (i + 2)) (sc xs (i + 3))))), (3, .ref (adr w 120)), (2, .ref (adr w 110)), (1, .ref (adr w 0)), (0, .ref b)]) C 2 dL_law_1786 rfl (by decide) rfl ?_
    refine q_goto C 23 dL_law_1789 (by decide) ?_
    refine q_lv (lv' := [(4, .int (iI (i + 5))), (3, .ref (adr w 120)), (2, .ref (adr w 110)), (1, .ref (adr w 0)), (0, .ref b)]) [0, 3, 4, 5, 6] rfl ?_
    exact hnext B F2 hCB hMB
  · obtain ⟨e1, e2⟩ := hzz h
    refine q_aload_n C 3 dL_law_1215 rfl ?_
    refine q_iconst C 0 dL_law_1216 ?_
    refine q_lald C kd120 ⟨by decide, by rw [ln120]; decide⟩ dL_law_1217 ?_
    rw [e1]
    refine q_iload C 0 dL_law_1218 rfl ?_
    refine q_i2l C dL_law_1220 ?_
    refine q_ltop (z' := wI (atZ A (sc xs (i + 1)) (sc xs (i + 2)) (sc xs (i + 3)))) (by rw [e2]; rfl) ?_
    refine q_lcmps (x := iL (wI _)) C dL_law_1221 ?_
    refine q_if_eq C 1227 dL_law_1222 ⟨by decide, by decide⟩ (by decide) (fun _ => ?_) (fun h => absurd rfl h)
    refine q_goto C 1786 dL_law_1227 (by decide) ?_
    refine q_iinc (lv' := [(4, .int (iI (i + 5))), (6, .int (iI z2)), (5, .int (iI (atT A (sc xs (i + 1)) (sc xs (i + 2)) (sc xs (i + 3))))), (3, .ref (adr w 120)), (2, .ref (adr w 110)), (1, .ref (adr w 0)), (0, .ref b)]) C 2 dL_law_1786 rfl (by decide) rfl ?_
    refine q_goto C 23 dL_law_1789 (by decide) ?_
    refine q_lv (lv' := [(4, .int (iI (i + 5))), (3, .ref (adr w 120)), (2, .ref (adr w 110)), (1, .ref (adr w 0)), (0, .ref b)]) [0, 3, 4, 5, 6] rfl ?_
    exact hnext B F2 hCB hMB

set_option maxRecDepth 100000 in
set_option maxHeartbeats 4000000 in
theorem law_18 (hC : LC p l s m meth c b L xs w) {i : Int} {k n : Nat} {F : FF} {A : AS} (hi : 0 ≤ i ∧ i + 5 ≤ (L : Int)) (hk : k + 1 ≤ 601024) (hn : n + 6 ≤ 7293034) (hA : CI F A) (hM : MI F A) (hnext : ∀ (B : AS) (G : FF), CI G B → MI G B → Wq p l e room_1 s m #[Value.ref b] below meth c Qf w (k + 1) (n + 6) 9 23 [(4, .int (iI (i + 5))), (3, .ref (adr w 120)), (2, .ref (adr w 110)), (1, .ref (adr w 0)), (0, .ref b)] [] G) : Wq p l e room_1 s m #[Value.ref b] below meth c Qf w k n 9 1230 [(4, .int (iI i)), (3, .ref (adr w 120)), (2, .ref (adr w 110)), (1, .ref (adr w 0)), (0, .ref b)] [] F := by
  obtain ⟨C, hl, hX, hbl, hbA, hL, hwb⟩ := hC
  have hV := hA.v
  refine q_aload_n C 3 dL_law_1230 rfl ?_
  refine q_aload_n C 4 dL_law_1231 rfl ?_
  refine q_iload C 0 dL_law_1232 rfl ?_
  refine q_iconst C 1 dL_law_1234 ?_
  refine q_iadd C dL_law_1235 ?_
  refine q_sld C hX hbl hbA ⟨by omega, by omega⟩ dL_law_1236 ?_
  refine q_aload_n C 4 dL_law_1237 rfl ?_
  refine q_iload C 0 dL_law_1238 rfl ?_
  refine q_iconst C 2 dL_law_1240 ?_
  refine q_iadd C dL_law_1241 ?_
  refine q_sld C hX hbl hbA ⟨by omega, by omega⟩ dL_law_1242 ?_
  refine q_aload_n C 4 dL_law_1243 rfl ?_
  refine q_iload C 0 dL_law_1244 rfl ?_
  refine q_iconst C 3 dL_law_1246 ?_
  refine q_iadd C dL_law_1247 ?_
  refine q_sld C hX hbl hbA ⟨by omega, by omega⟩ dL_law_1248 ?_
  refine q_aload_n C 1 dL_law_1249 rfl ?_
  refine q_cW (q_runW (As := [.ref (adr w 0), .int (iI (sc xs (i + 1))), .int (iI (sc xs (i + 2))), .int (iI (sc xs (i + 3))), .ref (adr w 120)]) (rest := []) C (k_L_lineOf l hl hA (sc_in _ _) (sc_in _ _) (sc_in _ _)) wd_809 wd_808 wd_76 wd_807 nd_L_lineOf rfl (by decide) ⟨hk, hn⟩ rfl (Nat.le_of_ble_eq_true rfl) dL_law_1250) (fun z F1 hp => ?_)
  obtain ⟨hz1, hN1, hF1⟩ := hp
  subst hz1
  have hM1 := hM.kpL hF1
  refine q_istore (lv' := [(5, .int (iI (lineOfT A (sc xs (i + 1)) (sc xs (i + 2)) (sc xs (i + 3))))), (4, .int (iI i)), (3, .ref (adr w 120)), (2, .ref (adr w 110)), (1, .ref (adr w 0)), (0, .ref b)]) C dL_law_1253 (by decide) rfl ?_
  refine q_aload_n C 3 dL_law_1255 rfl ?_
  refine q_aload_n C 5 dL_law_1256 rfl ?_
  refine q_iload C 1 dL_law_1257 rfl ?_
  refine q_iconst C 1 dL_law_1259 ?_
  refine q_iadd C dL_law_1260 ?_
  refine q_sld C hX hbl hbA ⟨by omega, by omega⟩ dL_law_1261 ?_
  refine q_aload_n C 5 dL_law_1262 rfl ?_
  refine q_iload C 1 dL_law_1263 rfl ?_
  refine q_iconst C 2 dL_law_1265 ?_
  refine q_iadd C dL_law_1266 ?_
  refine q_sld C hX hbl hbA ⟨by omega, by omega⟩ dL_law_1267 ?_
  refine q_aload_n C 5 dL_law_1268 rfl ?_
  refine q_iload C 1 dL_law_1269 rfl ?_
  refine q_iconst C 3 dL_law_1271 ?_
  refine q_iadd C dL_law_1272 ?_
  refine q_sld C hX hbl hbA ⟨by omega, by omega⟩ dL_law_1273 ?_
  refine q_cI (q_runV (As := [.int (iI (sc xs (i + 1))), .int (iI (sc xs (i + 2))), .int (iI (sc xs (i + 3)))]) (rest := []) C (k_X4_lineOf l hM1 hV (sc_in _ _) (sc_in _ _) (sc_in _ _)) kd110 (by decide) rfl wd_1171 wd_1169 wd_1170 wd_81 wd_1168 nd_X4_lineOf rfl (by decide) ⟨hk, hn⟩ rfl (Nat.le_of_ble_eq_true rfl) dL_law_1274) ?_
  rintro z2 F2 hp2
  obtain ⟨hth, hzz, B, hCB, hMB⟩ := law_step hN1 hp2
  refine q_istore (lv' := [(6, .int (iI z2)), (5, .int (iI (lineOfT A (sc xs (i + 1)) (sc xs (i + 2)) (sc xs (i + 3))))), (4, .int (iI i)), (3, .ref (adr w 120)), (2, .ref (adr w 110)), (1, .ref (adr w 0)), (0, .ref b)]) C dL_law_1277 (by decide) rfl ?_
  refine q_aload_n C 4 dL_law_1279 rfl ?_
  refine q_cI (q_runV (As := []) (rest := []) C (k_X4_thrown l) kd110 (by decide) rfl wd_920 wd_918 wd_919 wd_81 wd_917 nd_X4_thrown rfl (by decide) ⟨hk, hn⟩ rfl (Nat.le_of_ble_eq_true rfl) dL_law_1280) ?_
  rintro z3 F3 ⟨hz3, rfl⟩
  rw [hth] at hz3
  subst hz3
  have hTr := lineOfT_r A (sc xs (i + 1)) (sc xs (i + 2)) (sc xs (i + 3))
  refine q_iload C 1 dL_law_1283 rfl ?_
  refine q_icmp_eq C 1290 dL_law_1285 ⟨by omega, by omega⟩ ⟨by omega, by omega⟩ (by decide) (fun _ => ?_) (fun h => absurd rfl h)
  refine q_iload C 1 dL_law_1290 rfl ?_
  refine q_if_ne C 1307 dL_law_1292 ⟨by omega, by omega⟩ (by decide) (fun h => ?_) (fun h => ?_)
  · refine q_goto C 1786 dL_law_1307 (by decide) ?_
    refine q_iinc (lv' := [(4, .int (iI (i + 5))), (6, .int (iI z2)), (5, .int (iI (lineOfT A (sc xs (i + 1)) (sc xs (i + 2)) (sc xs (i + 3))))), (3, .ref (adr w 120)), (2, .ref (adr w 110)), (1, .ref (adr w 0)), (0, .ref b)]) C 2 dL_law_1786 rfl (by decide) rfl ?_
    refine q_goto C 23 dL_law_1789 (by decide) ?_
    refine q_lv (lv' := [(4, .int (iI (i + 5))), (3, .ref (adr w 120)), (2, .ref (adr w 110)), (1, .ref (adr w 0)), (0, .ref b)]) [0, 3, 4, 5, 6] rfl ?_
    exact hnext B F2 hCB hMB
  · obtain ⟨e1, e2⟩ := hzz h
    refine q_aload_n C 3 dL_law_1295 rfl ?_
    refine q_iconst C 0 dL_law_1296 ?_
    refine q_lald C kd120 ⟨by decide, by rw [ln120]; decide⟩ dL_law_1297 ?_
    rw [e1]
    refine q_iload C 0 dL_law_1298 rfl ?_
    refine q_i2l C dL_law_1300 ?_
    refine q_ltop (z' := wI (lineOfZ A (sc xs (i + 1)) (sc xs (i + 2)) (sc xs (i + 3)))) (by rw [e2]; rfl) ?_
    refine q_lcmps (x := iL (wI _)) C dL_law_1301 ?_
    refine q_if_eq C 1307 dL_law_1302 ⟨by decide, by decide⟩ (by decide) (fun _ => ?_) (fun h => absurd rfl h)
    refine q_goto C 1786 dL_law_1307 (by decide) ?_
    refine q_iinc (lv' := [(4, .int (iI (i + 5))), (6, .int (iI z2)), (5, .int (iI (lineOfT A (sc xs (i + 1)) (sc xs (i + 2)) (sc xs (i + 3))))), (3, .ref (adr w 120)), (2, .ref (adr w 110)), (1, .ref (adr w 0)), (0, .ref b)]) C 2 dL_law_1786 rfl (by decide) rfl ?_
    refine q_goto C 23 dL_law_1789 (by decide) ?_
    refine q_lv (lv' := [(4, .int (iI (i + 5))), (3, .ref (adr w 120)), (2, .ref (adr w 110)), (1, .ref (adr w 0)), (0, .ref b)]) [0, 3, 4, 5, 6] rfl ?_
    exact hnext B F2 hCB hMB

set_option maxRecDepth 100000 in
set_option maxHeartbeats 4000000 in
theorem law_19 (hC : LC p l s m meth c b L xs w) {i : Int} {k n : Nat} {F : FF} {A : AS} (hi : 0 ≤ i ∧ i + 5 ≤ (L : Int)) (hk : k + 1 ≤ 601024) (hn : n + 6 ≤ 7293034) (hA : CI F A) (hM : MI F A) (hnext : ∀ (B : AS) (G : FF), CI G B → MI G B → Wq p l e room_1 s m #[Value.ref b] below meth c Qf w (k + 1) (n + 6) 9 23 [(4, .int (iI (i + 5))), (3, .ref (adr w 120)), (2, .ref (adr w 110)), (1, .ref (adr w 0)), (0, .ref b)] [] G) : Wq p l e room_1 s m #[Value.ref b] below meth c Qf w k n 9 1310 [(4, .int (iI i)), (3, .ref (adr w 120)), (2, .ref (adr w 110)), (1, .ref (adr w 0)), (0, .ref b)] [] F := by
  obtain ⟨C, hl, hX, hbl, hbA, hL, hwb⟩ := hC
  have hV := hA.v
  refine q_aload_n C 3 dL_law_1310 rfl ?_
  refine q_aload_n C 4 dL_law_1311 rfl ?_
  refine q_iload C 0 dL_law_1312 rfl ?_
  refine q_iconst C 1 dL_law_1314 ?_
  refine q_iadd C dL_law_1315 ?_
  refine q_sld C hX hbl hbA ⟨by omega, by omega⟩ dL_law_1316 ?_
  refine q_aload_n C 4 dL_law_1317 rfl ?_
  refine q_iload C 0 dL_law_1318 rfl ?_
  refine q_iconst C 2 dL_law_1320 ?_
  refine q_iadd C dL_law_1321 ?_
  refine q_sld C hX hbl hbA ⟨by omega, by omega⟩ dL_law_1322 ?_
  refine q_aload_n C 1 dL_law_1323 rfl ?_
  refine q_cW (q_runW (As := [.ref (adr w 0), .int (iI (sc xs (i + 1))), .int (iI (sc xs (i + 2))), .ref (adr w 120)]) (rest := []) C (k_L_doorOf l hl hA (sc_in _ _) (sc_in _ _)) wd_817 wd_816 wd_76 wd_815 nd_L_doorOf rfl (by decide) ⟨hk, hn⟩ rfl (Nat.le_of_ble_eq_true rfl) dL_law_1324) (fun z F1 hp => ?_)
  obtain ⟨hz1, hN1, hF1⟩ := hp
  subst hz1
  have hM1 := hM.kpL hF1
  refine q_istore (lv' := [(5, .int (iI (doorOfT A (sc xs (i + 1)) (sc xs (i + 2))))), (4, .int (iI i)), (3, .ref (adr w 120)), (2, .ref (adr w 110)), (1, .ref (adr w 0)), (0, .ref b)]) C dL_law_1327 (by decide) rfl ?_
  refine q_aload_n C 3 dL_law_1329 rfl ?_
  refine q_aload_n C 5 dL_law_1330 rfl ?_
  refine q_iload C 1 dL_law_1331 rfl ?_
  refine q_iconst C 1 dL_law_1333 ?_
  refine q_iadd C dL_law_1334 ?_
  refine q_sld C hX hbl hbA ⟨by omega, by omega⟩ dL_law_1335 ?_
  refine q_aload_n C 5 dL_law_1336 rfl ?_
  refine q_iload C 1 dL_law_1337 rfl ?_
  refine q_iconst C 2 dL_law_1339 ?_
  refine q_iadd C dL_law_1340 ?_
  refine q_sld C hX hbl hbA ⟨by omega, by omega⟩ dL_law_1341 ?_
  refine q_cI (q_runV (As := [.int (iI (sc xs (i + 1))), .int (iI (sc xs (i + 2)))]) (rest := []) C (k_X4_doorOf l hM1 hV (sc_in _ _) (sc_in _ _)) kd110 (by decide) rfl wd_1186 wd_1184 wd_1185 wd_81 wd_1183 nd_X4_doorOf rfl (by decide) ⟨hk, hn⟩ rfl (Nat.le_of_ble_eq_true rfl) dL_law_1342) ?_
  rintro z2 F2 hp2
  obtain ⟨hth, hzz, B, hCB, hMB⟩ := law_step hN1 hp2
  refine q_istore (lv' := [(6, .int (iI z2)), (5, .int (iI (doorOfT A (sc xs (i + 1)) (sc xs (i + 2))))), (4, .int (iI i)), (3, .ref (adr w 120)), (2, .ref (adr w 110)), (1, .ref (adr w 0)), (0, .ref b)]) C dL_law_1345 (by decide) rfl ?_
  refine q_aload_n C 4 dL_law_1347 rfl ?_
  refine q_cI (q_runV (As := []) (rest := []) C (k_X4_thrown l) kd110 (by decide) rfl wd_920 wd_918 wd_919 wd_81 wd_917 nd_X4_thrown rfl (by decide) ⟨hk, hn⟩ rfl (Nat.le_of_ble_eq_true rfl) dL_law_1348) ?_
  rintro z3 F3 ⟨hz3, rfl⟩
  rw [hth] at hz3
  subst hz3
  have hTr := doorOfT_r A (sc xs (i + 1)) (sc xs (i + 2))
  refine q_iload C 1 dL_law_1351 rfl ?_
  refine q_icmp_eq C 1358 dL_law_1353 ⟨by omega, by omega⟩ ⟨by omega, by omega⟩ (by decide) (fun _ => ?_) (fun h => absurd rfl h)
  refine q_iload C 1 dL_law_1358 rfl ?_
  refine q_if_ne C 1375 dL_law_1360 ⟨by omega, by omega⟩ (by decide) (fun h => ?_) (fun h => ?_)
  · refine q_goto C 1786 dL_law_1375 (by decide) ?_
    refine q_iinc (lv' := [(4, .int (iI (i + 5))), (6, .int (iI z2)), (5, .int (iI (doorOfT A (sc xs (i + 1)) (sc xs (i + 2))))), (3, .ref (adr w 120)), (2, .ref (adr w 110)), (1, .ref (adr w 0)), (0, .ref b)]) C 2 dL_law_1786 rfl (by decide) rfl ?_
    refine q_goto C 23 dL_law_1789 (by decide) ?_
    refine q_lv (lv' := [(4, .int (iI (i + 5))), (3, .ref (adr w 120)), (2, .ref (adr w 110)), (1, .ref (adr w 0)), (0, .ref b)]) [0, 3, 4, 5, 6] rfl ?_
    exact hnext B F2 hCB hMB
  · obtain ⟨e1, e2⟩ := hzz h
    refine q_aload_n C 3 dL_law_1363 rfl ?_
    refine q_iconst C 0 dL_law_1364 ?_
    refine q_lald C kd120 ⟨by decide, by rw [ln120]; decide⟩ dL_law_1365 ?_
    rw [e1]
    refine q_iload C 0 dL_law_1366 rfl ?_
    refine q_i2l C dL_law_1368 ?_
    refine q_ltop (z' := wI (doorOfZ A (sc xs (i + 1)) (sc xs (i + 2)))) (by rw [e2]; rfl) ?_
    refine q_lcmps (x := iL (wI _)) C dL_law_1369 ?_
    refine q_if_eq C 1375 dL_law_1370 ⟨by decide, by decide⟩ (by decide) (fun _ => ?_) (fun h => absurd rfl h)
    refine q_goto C 1786 dL_law_1375 (by decide) ?_
    refine q_iinc (lv' := [(4, .int (iI (i + 5))), (6, .int (iI z2)), (5, .int (iI (doorOfT A (sc xs (i + 1)) (sc xs (i + 2))))), (3, .ref (adr w 120)), (2, .ref (adr w 110)), (1, .ref (adr w 0)), (0, .ref b)]) C 2 dL_law_1786 rfl (by decide) rfl ?_
    refine q_goto C 23 dL_law_1789 (by decide) ?_
    refine q_lv (lv' := [(4, .int (iI (i + 5))), (3, .ref (adr w 120)), (2, .ref (adr w 110)), (1, .ref (adr w 0)), (0, .ref b)]) [0, 3, 4, 5, 6] rfl ?_
    exact hnext B F2 hCB hMB

set_option maxRecDepth 100000 in
set_option maxHeartbeats 4000000 in
theorem law_20 (hC : LC p l s m meth c b L xs w) {i : Int} {k n : Nat} {F : FF} {A : AS} (hi : 0 ≤ i ∧ i + 5 ≤ (L : Int)) (hk : k + 1 ≤ 601024) (hn : n + 6 ≤ 7293034) (hA : CI F A) (hM : MI F A) (hnext : ∀ (B : AS) (G : FF), CI G B → MI G B → Wq p l e room_1 s m #[Value.ref b] below meth c Qf w (k + 1) (n + 6) 9 23 [(4, .int (iI (i + 5))), (3, .ref (adr w 120)), (2, .ref (adr w 110)), (1, .ref (adr w 0)), (0, .ref b)] [] G) : Wq p l e room_1 s m #[Value.ref b] below meth c Qf w k n 9 1378 [(4, .int (iI i)), (3, .ref (adr w 120)), (2, .ref (adr w 110)), (1, .ref (adr w 0)), (0, .ref b)] [] F := by
  obtain ⟨C, hl, hX, hbl, hbA, hL, hwb⟩ := hC
  have hV := hA.v
  refine q_aload_n C 3 dL_law_1378 rfl ?_
  refine q_aload_n C 4 dL_law_1379 rfl ?_
  refine q_iload C 0 dL_law_1380 rfl ?_
  refine q_iconst C 1 dL_law_1382 ?_
  refine q_iadd C dL_law_1383 ?_
  refine q_sld C hX hbl hbA ⟨by omega, by omega⟩ dL_law_1384 ?_
  refine q_aload_n C 1 dL_law_1385 rfl ?_
  refine q_cW (q_runW (As := [.ref (adr w 0), .int (iI (sc xs (i + 1))), .ref (adr w 120)]) (rest := []) C (k_L_count l hl hA (sc_in _ _)) wd_825 wd_824 wd_76 wd_823 nd_L_count rfl (by decide) ⟨hk, hn⟩ rfl (Nat.le_of_ble_eq_true rfl) dL_law_1386) (fun z F1 hp => ?_)
  obtain ⟨hz1, hN1, hF1⟩ := hp
  subst hz1
  have hM1 := hM.kpL hF1
  refine q_istore (lv' := [(5, .int (iI (countT A (sc xs (i + 1))))), (4, .int (iI i)), (3, .ref (adr w 120)), (2, .ref (adr w 110)), (1, .ref (adr w 0)), (0, .ref b)]) C dL_law_1389 (by decide) rfl ?_
  refine q_aload_n C 3 dL_law_1391 rfl ?_
  refine q_aload_n C 5 dL_law_1392 rfl ?_
  refine q_iload C 1 dL_law_1393 rfl ?_
  refine q_iconst C 1 dL_law_1395 ?_
  refine q_iadd C dL_law_1396 ?_
  refine q_sld C hX hbl hbA ⟨by omega, by omega⟩ dL_law_1397 ?_
  refine q_cI (q_runV (As := [.int (iI (sc xs (i + 1)))]) (rest := []) C (k_X4_count l hM1 hV (sc_in _ _)) kd110 (by decide) rfl wd_1194 wd_1192 wd_1193 wd_81 wd_1191 nd_X4_count rfl (by decide) ⟨hk, hn⟩ rfl (Nat.le_of_ble_eq_true rfl) dL_law_1398) ?_
  rintro z2 F2 hp2
  obtain ⟨hth, hzz, B, hCB, hMB⟩ := law_step hN1 hp2
  refine q_istore (lv' := [(6, .int (iI z2)), (5, .int (iI (countT A (sc xs (i + 1))))), (4, .int (iI i)), (3, .ref (adr w 120)), (2, .ref (adr w 110)), (1, .ref (adr w 0)), (0, .ref b)]) C dL_law_1401 (by decide) rfl ?_
  refine q_aload_n C 4 dL_law_1403 rfl ?_
  refine q_cI (q_runV (As := []) (rest := []) C (k_X4_thrown l) kd110 (by decide) rfl wd_920 wd_918 wd_919 wd_81 wd_917 nd_X4_thrown rfl (by decide) ⟨hk, hn⟩ rfl (Nat.le_of_ble_eq_true rfl) dL_law_1404) ?_
  rintro z3 F3 ⟨hz3, rfl⟩
  rw [hth] at hz3
  subst hz3
  have hTr := countT_r A (sc xs (i + 1))
  refine q_iload C 1 dL_law_1407 rfl ?_
  refine q_icmp_eq C 1414 dL_law_1409 ⟨by omega, by omega⟩ ⟨by omega, by omega⟩ (by decide) (fun _ => ?_) (fun h => absurd rfl h)
  refine q_iload C 1 dL_law_1414 rfl ?_
  refine q_if_ne C 1431 dL_law_1416 ⟨by omega, by omega⟩ (by decide) (fun h => ?_) (fun h => ?_)
  · refine q_goto C 1786 dL_law_1431 (by decide) ?_
    refine q_iinc (lv' := [(4, .int (iI (i + 5))), (6, .int (iI z2)), (5, .int (iI (countT A (sc xs (i + 1))))), (3, .ref (adr w 120)), (2, .ref (adr w 110)), (1, .ref (adr w 0)), (0, .ref b)]) C 2 dL_law_1786 rfl (by decide) rfl ?_
    refine q_goto C 23 dL_law_1789 (by decide) ?_
    refine q_lv (lv' := [(4, .int (iI (i + 5))), (3, .ref (adr w 120)), (2, .ref (adr w 110)), (1, .ref (adr w 0)), (0, .ref b)]) [0, 3, 4, 5, 6] rfl ?_
    exact hnext B F2 hCB hMB
  · obtain ⟨e1, e2⟩ := hzz h
    refine q_aload_n C 3 dL_law_1419 rfl ?_
    refine q_iconst C 0 dL_law_1420 ?_
    refine q_lald C kd120 ⟨by decide, by rw [ln120]; decide⟩ dL_law_1421 ?_
    rw [e1]
    refine q_iload C 0 dL_law_1422 rfl ?_
    refine q_i2l C dL_law_1424 ?_
    refine q_ltop (z' := wI (countZ A (sc xs (i + 1)))) (by rw [e2]; rfl) ?_
    refine q_lcmps (x := iL (wI _)) C dL_law_1425 ?_
    refine q_if_eq C 1431 dL_law_1426 ⟨by decide, by decide⟩ (by decide) (fun _ => ?_) (fun h => absurd rfl h)
    refine q_goto C 1786 dL_law_1431 (by decide) ?_
    refine q_iinc (lv' := [(4, .int (iI (i + 5))), (6, .int (iI z2)), (5, .int (iI (countT A (sc xs (i + 1))))), (3, .ref (adr w 120)), (2, .ref (adr w 110)), (1, .ref (adr w 0)), (0, .ref b)]) C 2 dL_law_1786 rfl (by decide) rfl ?_
    refine q_goto C 23 dL_law_1789 (by decide) ?_
    refine q_lv (lv' := [(4, .int (iI (i + 5))), (3, .ref (adr w 120)), (2, .ref (adr w 110)), (1, .ref (adr w 0)), (0, .ref b)]) [0, 3, 4, 5, 6] rfl ?_
    exact hnext B F2 hCB hMB

set_option maxRecDepth 100000 in
set_option maxHeartbeats 4000000 in
theorem law_21 (hC : LC p l s m meth c b L xs w) {i : Int} {k n : Nat} {F : FF} {A : AS} (hi : 0 ≤ i ∧ i + 5 ≤ (L : Int)) (hk : k + 1 ≤ 601024) (hn : n + 6 ≤ 7293034) (hA : CI F A) (hM : MI F A) (hnext : ∀ (B : AS) (G : FF), CI G B → MI G B → Wq p l e room_1 s m #[Value.ref b] below meth c Qf w (k + 1) (n + 6) 9 23 [(4, .int (iI (i + 5))), (3, .ref (adr w 120)), (2, .ref (adr w 110)), (1, .ref (adr w 0)), (0, .ref b)] [] G) : Wq p l e room_1 s m #[Value.ref b] below meth c Qf w k n 9 1434 [(4, .int (iI i)), (3, .ref (adr w 120)), (2, .ref (adr w 110)), (1, .ref (adr w 0)), (0, .ref b)] [] F := by
  obtain ⟨C, hl, hX, hbl, hbA, hL, hwb⟩ := hC
  have hV := hA.v
  refine q_aload_n C 3 dL_law_1434 rfl ?_
  refine q_aload_n C 4 dL_law_1435 rfl ?_
  refine q_iload C 0 dL_law_1436 rfl ?_
  refine q_iconst C 1 dL_law_1438 ?_
  refine q_iadd C dL_law_1439 ?_
  refine q_sld C hX hbl hbA ⟨by omega, by omega⟩ dL_law_1440 ?_
  refine q_aload_n C 1 dL_law_1441 rfl ?_
  refine q_cW (q_runW (As := [.ref (adr w 0), .int (iI (sc xs (i + 1))), .ref (adr w 120)]) (rest := []) C (k_L_setting l hl hA (sc_in _ _)) wd_833 wd_832 wd_76 wd_831 nd_L_setting rfl (by decide) ⟨hk, hn⟩ rfl (Nat.le_of_ble_eq_true rfl) dL_law_1442) (fun z F1 hp => ?_)
  obtain ⟨hz1, hN1, hF1⟩ := hp
  subst hz1
  have hM1 := hM.kpL hF1
  refine q_istore (lv' := [(5, .int (iI (settingT A (sc xs (i + 1))))), (4, .int (iI i)), (3, .ref (adr w 120)), (2, .ref (adr w 110)), (1, .ref (adr w 0)), (0, .ref b)]) C dL_law_1445 (by decide) rfl ?_
  refine q_aload_n C 3 dL_law_1447 rfl ?_
  refine q_aload_n C 5 dL_law_1448 rfl ?_
  refine q_iload C 1 dL_law_1449 rfl ?_
  refine q_iconst C 1 dL_law_1451 ?_
  refine q_iadd C dL_law_1452 ?_
  refine q_sld C hX hbl hbA ⟨by omega, by omega⟩ dL_law_1453 ?_
  refine q_cI (q_runV (As := [.int (iI (sc xs (i + 1)))]) (rest := []) C (k_X4_setting l hM1 hV (sc_in _ _)) kd110 (by decide) rfl wd_1214 wd_1212 wd_1213 wd_81 wd_1211 nd_X4_setting rfl (by decide) ⟨hk, hn⟩ rfl (Nat.le_of_ble_eq_true rfl) dL_law_1454) ?_
  rintro z2 F2 hp2
  obtain ⟨hth, hzz, B, hCB, hMB⟩ := law_step hN1 hp2
  refine q_istore (lv' := [(6, .int (iI z2)), (5, .int (iI (settingT A (sc xs (i + 1))))), (4, .int (iI i)), (3, .ref (adr w 120)), (2, .ref (adr w 110)), (1, .ref (adr w 0)), (0, .ref b)]) C dL_law_1457 (by decide) rfl ?_
  refine q_aload_n C 4 dL_law_1459 rfl ?_
  refine q_cI (q_runV (As := []) (rest := []) C (k_X4_thrown l) kd110 (by decide) rfl wd_920 wd_918 wd_919 wd_81 wd_917 nd_X4_thrown rfl (by decide) ⟨hk, hn⟩ rfl (Nat.le_of_ble_eq_true rfl) dL_law_1460) ?_
  rintro z3 F3 ⟨hz3, rfl⟩
  rw [hth] at hz3
  subst hz3
  have hTr := settingT_r A (sc xs (i + 1))
  refine q_iload C 1 dL_law_1463 rfl ?_
  refine q_icmp_eq C 1470 dL_law_1465 ⟨by omega, by omega⟩ ⟨by omega, by omega⟩ (by decide) (fun _ => ?_) (fun h => absurd rfl h)
  refine q_iload C 1 dL_law_1470 rfl ?_
  refine q_if_ne C 1487 dL_law_1472 ⟨by omega, by omega⟩ (by decide) (fun h => ?_) (fun h => ?_)
  · refine q_goto C 1786 dL_law_1487 (by decide) ?_
    refine q_iinc (lv' := [(4, .int (iI (i + 5))), (6, .int (iI z2)), (5, .int (iI (settingT A (sc xs (i + 1))))), (3, .ref (adr w 120)), (2, .ref (adr w 110)), (1, .ref (adr w 0)), (0, .ref b)]) C 2 dL_law_1786 rfl (by decide) rfl ?_
    refine q_goto C 23 dL_law_1789 (by decide) ?_
    refine q_lv (lv' := [(4, .int (iI (i + 5))), (3, .ref (adr w 120)), (2, .ref (adr w 110)), (1, .ref (adr w 0)), (0, .ref b)]) [0, 3, 4, 5, 6] rfl ?_
    exact hnext B F2 hCB hMB
  · obtain ⟨e1, e2⟩ := hzz h
    refine q_aload_n C 3 dL_law_1475 rfl ?_
    refine q_iconst C 0 dL_law_1476 ?_
    refine q_lald C kd120 ⟨by decide, by rw [ln120]; decide⟩ dL_law_1477 ?_
    rw [e1]
    refine q_iload C 0 dL_law_1478 rfl ?_
    refine q_i2l C dL_law_1480 ?_
    refine q_ltop (z' := wI (settingZ A (sc xs (i + 1)))) (by rw [e2]; rfl) ?_
    refine q_lcmps (x := iL (wI _)) C dL_law_1481 ?_
    refine q_if_eq C 1487 dL_law_1482 ⟨by decide, by decide⟩ (by decide) (fun _ => ?_) (fun h => absurd rfl h)
    refine q_goto C 1786 dL_law_1487 (by decide) ?_
    refine q_iinc (lv' := [(4, .int (iI (i + 5))), (6, .int (iI z2)), (5, .int (iI (settingT A (sc xs (i + 1))))), (3, .ref (adr w 120)), (2, .ref (adr w 110)), (1, .ref (adr w 0)), (0, .ref b)]) C 2 dL_law_1786 rfl (by decide) rfl ?_
    refine q_goto C 23 dL_law_1789 (by decide) ?_
    refine q_lv (lv' := [(4, .int (iI (i + 5))), (3, .ref (adr w 120)), (2, .ref (adr w 110)), (1, .ref (adr w 0)), (0, .ref b)]) [0, 3, 4, 5, 6] rfl ?_
    exact hnext B F2 hCB hMB

set_option maxRecDepth 100000 in
set_option maxHeartbeats 4000000 in
theorem law_22 (hC : LC p l s m meth c b L xs w) {i : Int} {k n : Nat} {F : FF} {A : AS} (hi : 0 ≤ i ∧ i + 5 ≤ (L : Int)) (hk : k + 1 ≤ 601024) (hn : n + 6 ≤ 7293034) (hA : CI F A) (hM : MI F A) (hnext : ∀ (B : AS) (G : FF), CI G B → MI G B → Wq p l e room_1 s m #[Value.ref b] below meth c Qf w (k + 1) (n + 6) 9 23 [(4, .int (iI (i + 5))), (3, .ref (adr w 120)), (2, .ref (adr w 110)), (1, .ref (adr w 0)), (0, .ref b)] [] G) : Wq p l e room_1 s m #[Value.ref b] below meth c Qf w k n 9 1490 [(4, .int (iI i)), (3, .ref (adr w 120)), (2, .ref (adr w 110)), (1, .ref (adr w 0)), (0, .ref b)] [] F := by
  obtain ⟨C, hl, hX, hbl, hbA, hL, hwb⟩ := hC
  have hV := hA.v
  refine q_aload_n C 3 dL_law_1490 rfl ?_
  refine q_aload_n C 4 dL_law_1491 rfl ?_
  refine q_iload C 0 dL_law_1492 rfl ?_
  refine q_iconst C 1 dL_law_1494 ?_
  refine q_iadd C dL_law_1495 ?_
  refine q_sld C hX hbl hbA ⟨by omega, by omega⟩ dL_law_1496 ?_
  refine q_aload_n C 4 dL_law_1497 rfl ?_
  refine q_iload C 0 dL_law_1498 rfl ?_
  refine q_iconst C 2 dL_law_1500 ?_
  refine q_iadd C dL_law_1501 ?_
  refine q_sld C hX hbl hbA ⟨by omega, by omega⟩ dL_law_1502 ?_
  refine q_aload_n C 4 dL_law_1503 rfl ?_
  refine q_iload C 0 dL_law_1504 rfl ?_
  refine q_iconst C 3 dL_law_1506 ?_
  refine q_iadd C dL_law_1507 ?_
  refine q_sld C hX hbl hbA ⟨by omega, by omega⟩ dL_law_1508 ?_
  refine q_aload_n C 4 dL_law_1509 rfl ?_
  refine q_iload C 0 dL_law_1510 rfl ?_
  refine q_iconst C 4 dL_law_1512 ?_
  refine q_iadd C dL_law_1513 ?_
  refine q_sld C hX hbl hbA ⟨by omega, by omega⟩ dL_law_1514 ?_
  refine q_aload_n C 1 dL_law_1515 rfl ?_
  refine q_cW (q_runW (As := [.ref (adr w 0), .int (iI (sc xs (i + 1))), .int (iI (sc xs (i + 2))), .int (iI (sc xs (i + 3))), .int (iI (sc xs (i + 4))), .ref (adr w 120)]) (rest := []) C (k_L_whyNot l hl hA (sc_in _ _) (sc_in _ _) (sc_in _ _) (sc_in _ _)) wd_840 wd_839 wd_76 wd_838 nd_L_whyNot rfl (by decide) ⟨hk, hn⟩ rfl (Nat.le_of_ble_eq_true rfl) dL_law_1516) (fun z F1 hp => ?_)
  obtain ⟨hz1, hN1, hF1⟩ := hp
  subst hz1
  have hM1 := hM.kpL hF1
  refine q_istore (lv' := [(5, .int (iI (whyNotT A (sc xs (i + 1)) (sc xs (i + 2)) (sc xs (i + 3)) (sc xs (i + 4))))), (4, .int (iI i)), (3, .ref (adr w 120)), (2, .ref (adr w 110)), (1, .ref (adr w 0)), (0, .ref b)]) C dL_law_1519 (by decide) rfl ?_
  refine q_aload_n C 3 dL_law_1521 rfl ?_
  refine q_aload_n C 5 dL_law_1522 rfl ?_
  refine q_iload C 1 dL_law_1523 rfl ?_
  refine q_iconst C 1 dL_law_1525 ?_
  refine q_iadd C dL_law_1526 ?_
  refine q_sld C hX hbl hbA ⟨by omega, by omega⟩ dL_law_1527 ?_
  refine q_aload_n C 5 dL_law_1528 rfl ?_
  refine q_iload C 1 dL_law_1529 rfl ?_
  refine q_iconst C 2 dL_law_1531 ?_
  refine q_iadd C dL_law_1532 ?_
  refine q_sld C hX hbl hbA ⟨by omega, by omega⟩ dL_law_1533 ?_
  refine q_aload_n C 5 dL_law_1534 rfl ?_
  refine q_iload C 1 dL_law_1535 rfl ?_
  refine q_iconst C 3 dL_law_1537 ?_
  refine q_iadd C dL_law_1538 ?_
  refine q_sld C hX hbl hbA ⟨by omega, by omega⟩ dL_law_1539 ?_
  refine q_aload_n C 5 dL_law_1540 rfl ?_
  refine q_iload C 1 dL_law_1541 rfl ?_
  refine q_iconst C 4 dL_law_1543 ?_
  refine q_iadd C dL_law_1544 ?_
  refine q_sld C hX hbl hbA ⟨by omega, by omega⟩ dL_law_1545 ?_
  refine q_cI (q_runV (As := [.int (iI (sc xs (i + 1))), .int (iI (sc xs (i + 2))), .int (iI (sc xs (i + 3))), .int (iI (sc xs (i + 4)))]) (rest := []) C (k_X4_whyNot l hM1 hV (sc_in _ _) (sc_in _ _) (sc_in _ _) (sc_in _ _)) kd110 (by decide) rfl wd_1218 wd_1216 wd_1217 wd_81 wd_1215 nd_X4_whyNot rfl (by decide) ⟨hk, hn⟩ rfl (Nat.le_of_ble_eq_true rfl) dL_law_1546) ?_
  rintro z2 F2 hp2
  obtain ⟨hth, hzz, B, hCB, hMB⟩ := law_step hN1 hp2
  refine q_istore (lv' := [(6, .int (iI z2)), (5, .int (iI (whyNotT A (sc xs (i + 1)) (sc xs (i + 2)) (sc xs (i + 3)) (sc xs (i + 4))))), (4, .int (iI i)), (3, .ref (adr w 120)), (2, .ref (adr w 110)), (1, .ref (adr w 0)), (0, .ref b)]) C dL_law_1549 (by decide) rfl ?_
  refine q_aload_n C 4 dL_law_1551 rfl ?_
  refine q_cI (q_runV (As := []) (rest := []) C (k_X4_thrown l) kd110 (by decide) rfl wd_920 wd_918 wd_919 wd_81 wd_917 nd_X4_thrown rfl (by decide) ⟨hk, hn⟩ rfl (Nat.le_of_ble_eq_true rfl) dL_law_1552) ?_
  rintro z3 F3 ⟨hz3, rfl⟩
  rw [hth] at hz3
  subst hz3
  have hTr := whyNotT_r A (sc xs (i + 1)) (sc xs (i + 2)) (sc xs (i + 3)) (sc xs (i + 4))
  refine q_iload C 1 dL_law_1555 rfl ?_
  refine q_icmp_eq C 1562 dL_law_1557 ⟨by omega, by omega⟩ ⟨by omega, by omega⟩ (by decide) (fun _ => ?_) (fun h => absurd rfl h)
  refine q_iload C 1 dL_law_1562 rfl ?_
  refine q_if_ne C 1579 dL_law_1564 ⟨by omega, by omega⟩ (by decide) (fun h => ?_) (fun h => ?_)
  · refine q_goto C 1786 dL_law_1579 (by decide) ?_
    refine q_iinc (lv' := [(4, .int (iI (i + 5))), (6, .int (iI z2)), (5, .int (iI (whyNotT A (sc xs (i + 1)) (sc xs (i + 2)) (sc xs (i + 3)) (sc xs (i + 4))))), (3, .ref (adr w 120)), (2, .ref (adr w 110)), (1, .ref (adr w 0)), (0, .ref b)]) C 2 dL_law_1786 rfl (by decide) rfl ?_
    refine q_goto C 23 dL_law_1789 (by decide) ?_
    refine q_lv (lv' := [(4, .int (iI (i + 5))), (3, .ref (adr w 120)), (2, .ref (adr w 110)), (1, .ref (adr w 0)), (0, .ref b)]) [0, 3, 4, 5, 6] rfl ?_
    exact hnext B F2 hCB hMB
  · obtain ⟨e1, e2⟩ := hzz h
    refine q_aload_n C 3 dL_law_1567 rfl ?_
    refine q_iconst C 0 dL_law_1568 ?_
    refine q_lald C kd120 ⟨by decide, by rw [ln120]; decide⟩ dL_law_1569 ?_
    rw [e1]
    refine q_iload C 0 dL_law_1570 rfl ?_
    refine q_i2l C dL_law_1572 ?_
    refine q_ltop (z' := wI (whyNotZ A (sc xs (i + 1)) (sc xs (i + 2)) (sc xs (i + 3)) (sc xs (i + 4)))) (by rw [e2]; rfl) ?_
    refine q_lcmps (x := iL (wI _)) C dL_law_1573 ?_
    refine q_if_eq C 1579 dL_law_1574 ⟨by decide, by decide⟩ (by decide) (fun _ => ?_) (fun h => absurd rfl h)
    refine q_goto C 1786 dL_law_1579 (by decide) ?_
    refine q_iinc (lv' := [(4, .int (iI (i + 5))), (6, .int (iI z2)), (5, .int (iI (whyNotT A (sc xs (i + 1)) (sc xs (i + 2)) (sc xs (i + 3)) (sc xs (i + 4))))), (3, .ref (adr w 120)), (2, .ref (adr w 110)), (1, .ref (adr w 0)), (0, .ref b)]) C 2 dL_law_1786 rfl (by decide) rfl ?_
    refine q_goto C 23 dL_law_1789 (by decide) ?_
    refine q_lv (lv' := [(4, .int (iI (i + 5))), (3, .ref (adr w 120)), (2, .ref (adr w 110)), (1, .ref (adr w 0)), (0, .ref b)]) [0, 3, 4, 5, 6] rfl ?_
    exact hnext B F2 hCB hMB

set_option maxRecDepth 100000 in
set_option maxHeartbeats 4000000 in
theorem law_23 (hC : LC p l s m meth c b L xs w) {i : Int} {k n : Nat} {F : FF} {A : AS} (hi : 0 ≤ i ∧ i + 5 ≤ (L : Int)) (hk : k + 1 ≤ 601024) (hn : n + 6 ≤ 7293034) (hA : CI F A) (hM : MI F A) (hnext : ∀ (B : AS) (G : FF), CI G B → MI G B → Wq p l e room_1 s m #[Value.ref b] below meth c Qf w (k + 1) (n + 6) 9 23 [(4, .int (iI (i + 5))), (3, .ref (adr w 120)), (2, .ref (adr w 110)), (1, .ref (adr w 0)), (0, .ref b)] [] G) : Wq p l e room_1 s m #[Value.ref b] below meth c Qf w k n 9 1582 [(4, .int (iI i)), (3, .ref (adr w 120)), (2, .ref (adr w 110)), (1, .ref (adr w 0)), (0, .ref b)] [] F := by
  obtain ⟨C, hl, hX, hbl, hbA, hL, hwb⟩ := hC
  have hV := hA.v
  refine q_aload_n C 3 dL_law_1582 rfl ?_
  refine q_aload_n C 4 dL_law_1583 rfl ?_
  refine q_iload C 0 dL_law_1584 rfl ?_
  refine q_iconst C 1 dL_law_1586 ?_
  refine q_iadd C dL_law_1587 ?_
  refine q_sld C hX hbl hbA ⟨by omega, by omega⟩ dL_law_1588 ?_
  refine q_aload_n C 4 dL_law_1589 rfl ?_
  refine q_iload C 0 dL_law_1590 rfl ?_
  refine q_iconst C 2 dL_law_1592 ?_
  refine q_iadd C dL_law_1593 ?_
  refine q_sld C hX hbl hbA ⟨by omega, by omega⟩ dL_law_1594 ?_
  refine q_aload_n C 1 dL_law_1595 rfl ?_
  refine q_cW (q_runW (As := [.ref (adr w 0), .int (iI (sc xs (i + 1))), .int (iI (sc xs (i + 2))), .ref (adr w 120)]) (rest := []) C (k_L_bestWord l hl hA (sc_in _ _) (sc_in _ _)) wd_847 wd_846 wd_76 wd_845 nd_L_bestWord rfl (by decide) ⟨hk, hn⟩ rfl (Nat.le_of_ble_eq_true rfl) dL_law_1596) (fun z F1 hp => ?_)
  obtain ⟨hz1, hN1, hF1⟩ := hp
  subst hz1
  have hM1 := hM.kpL hF1
  refine q_istore (lv' := [(5, .int (iI (bestWordT A (sc xs (i + 1)) (sc xs (i + 2))))), (4, .int (iI i)), (3, .ref (adr w 120)), (2, .ref (adr w 110)), (1, .ref (adr w 0)), (0, .ref b)]) C dL_law_1599 (by decide) rfl ?_
  refine q_aload_n C 3 dL_law_1601 rfl ?_
  refine q_aload_n C 5 dL_law_1602 rfl ?_
  refine q_iload C 1 dL_law_1603 rfl ?_
  refine q_iconst C 1 dL_law_1605 ?_
  refine q_iadd C dL_law_1606 ?_
  refine q_sld C hX hbl hbA ⟨by omega, by omega⟩ dL_law_1607 ?_
  refine q_aload_n C 5 dL_law_1608 rfl ?_
  refine q_iload C 1 dL_law_1609 rfl ?_
  refine q_iconst C 2 dL_law_1611 ?_
  refine q_iadd C dL_law_1612 ?_
  refine q_sld C hX hbl hbA ⟨by omega, by omega⟩ dL_law_1613 ?_
  refine q_cI (q_runV (As := [.int (iI (sc xs (i + 1))), .int (iI (sc xs (i + 2)))]) (rest := []) C (k_X4_bestWord l hM1 hV (sc_in _ _) (sc_in _ _)) kd110 (by decide) rfl wd_1222 wd_1220 wd_1221 wd_81 wd_1219 nd_X4_bestWord rfl (by decide) ⟨hk, hn⟩ rfl (Nat.le_of_ble_eq_true rfl) dL_law_1614) ?_
  rintro z2 F2 hp2
  obtain ⟨hth, hzz, B, hCB, hMB⟩ := law_step hN1 hp2
  refine q_istore (lv' := [(6, .int (iI z2)), (5, .int (iI (bestWordT A (sc xs (i + 1)) (sc xs (i + 2))))), (4, .int (iI i)), (3, .ref (adr w 120)), (2, .ref (adr w 110)), (1, .ref (adr w 0)), (0, .ref b)]) C dL_law_1617 (by decide) rfl ?_
  refine q_aload_n C 4 dL_law_1619 rfl ?_
  refine q_cI (q_runV (As := []) (rest := []) C (k_X4_thrown l) kd110 (by decide) rfl wd_920 wd_918 wd_919 wd_81 wd_917 nd_X4_thrown rfl (by decide) ⟨hk, hn⟩ rfl (Nat.le_of_ble_eq_true rfl) dL_law_1620) ?_
  rintro z3 F3 ⟨hz3, rfl⟩
  rw [hth] at hz3
  subst hz3
  have hTr := bestWordT_r A (sc xs (i + 1)) (sc xs (i + 2))
  refine q_iload C 1 dL_law_1623 rfl ?_
  refine q_icmp_eq C 1630 dL_law_1625 ⟨by omega, by omega⟩ ⟨by omega, by omega⟩ (by decide) (fun _ => ?_) (fun h => absurd rfl h)
  refine q_iload C 1 dL_law_1630 rfl ?_
  refine q_if_ne C 1647 dL_law_1632 ⟨by omega, by omega⟩ (by decide) (fun h => ?_) (fun h => ?_)
  · refine q_goto C 1786 dL_law_1647 (by decide) ?_
    refine q_iinc (lv' := [(4, .int (iI (i + 5))), (6, .int (iI z2)), (5, .int (iI (bestWordT A (sc xs (i + 1)) (sc xs (i + 2))))), (3, .ref (adr w 120)), (2, .ref (adr w 110)), (1, .ref (adr w 0)), (0, .ref b)]) C 2 dL_law_1786 rfl (by decide) rfl ?_
    refine q_goto C 23 dL_law_1789 (by decide) ?_
    refine q_lv (lv' := [(4, .int (iI (i + 5))), (3, .ref (adr w 120)), (2, .ref (adr w 110)), (1, .ref (adr w 0)), (0, .ref b)]) [0, 3, 4, 5, 6] rfl ?_
    exact hnext B F2 hCB hMB
  · obtain ⟨e1, e2⟩ := hzz h
    refine q_aload_n C 3 dL_law_1635 rfl ?_
    refine q_iconst C 0 dL_law_1636 ?_
    refine q_lald C kd120 ⟨by decide, by rw [ln120]; decide⟩ dL_law_1637 ?_
    rw [e1]
    refine q_iload C 0 dL_law_1638 rfl ?_
    refine q_i2l C dL_law_1640 ?_
    refine q_ltop (z' := wI (bestWordZ A (sc xs (i + 1)) (sc xs (i + 2)))) (by rw [e2]; rfl) ?_
    refine q_lcmps (x := iL (wI _)) C dL_law_1641 ?_
    refine q_if_eq C 1647 dL_law_1642 ⟨by decide, by decide⟩ (by decide) (fun _ => ?_) (fun h => absurd rfl h)
    refine q_goto C 1786 dL_law_1647 (by decide) ?_
    refine q_iinc (lv' := [(4, .int (iI (i + 5))), (6, .int (iI z2)), (5, .int (iI (bestWordT A (sc xs (i + 1)) (sc xs (i + 2))))), (3, .ref (adr w 120)), (2, .ref (adr w 110)), (1, .ref (adr w 0)), (0, .ref b)]) C 2 dL_law_1786 rfl (by decide) rfl ?_
    refine q_goto C 23 dL_law_1789 (by decide) ?_
    refine q_lv (lv' := [(4, .int (iI (i + 5))), (3, .ref (adr w 120)), (2, .ref (adr w 110)), (1, .ref (adr w 0)), (0, .ref b)]) [0, 3, 4, 5, 6] rfl ?_
    exact hnext B F2 hCB hMB

set_option maxRecDepth 100000 in
set_option maxHeartbeats 4000000 in
theorem law_24 (hC : LC p l s m meth c b L xs w) {i : Int} {k n : Nat} {F : FF} {A : AS} (hi : 0 ≤ i ∧ i + 5 ≤ (L : Int)) (hk : k + 1 ≤ 601024) (hn : n + 6 ≤ 7293034) (hA : CI F A) (hM : MI F A) (hnext : ∀ (B : AS) (G : FF), CI G B → MI G B → Wq p l e room_1 s m #[Value.ref b] below meth c Qf w (k + 1) (n + 6) 9 23 [(4, .int (iI (i + 5))), (3, .ref (adr w 120)), (2, .ref (adr w 110)), (1, .ref (adr w 0)), (0, .ref b)] [] G) : Wq p l e room_1 s m #[Value.ref b] below meth c Qf w k n 9 1650 [(4, .int (iI i)), (3, .ref (adr w 120)), (2, .ref (adr w 110)), (1, .ref (adr w 0)), (0, .ref b)] [] F := by
  obtain ⟨C, hl, hX, hbl, hbA, hL, hwb⟩ := hC
  have hV := hA.v
  refine q_aload_n C 3 dL_law_1650 rfl ?_
  refine q_cI (q_runV (As := []) (rest := []) C (k_X3_prey l hA) kd0 (by decide) rfl wd_273 wd_271 wd_272 wd_77 wd_270 nd_X3_prey rfl (by decide) ⟨Nat.le_of_succ_le hk, Nat.le_trans (Nat.le_add_right n 6) hn⟩ rfl (Nat.le_of_ble_eq_true rfl) dL_law_1651) ?_
  rintro z1 F1 ⟨rfl, rfl⟩
  have hM1 := hM
  have hC1 := hA
  refine q_aload_n C 2 dL_law_1654 rfl ?_
  refine q_cI (q_runV (As := []) (rest := [.int (iI (py A.r))]) C (k_X4_prey l hM1 hV) kd110 (by decide) rfl wd_1242 wd_1240 wd_1241 wd_81 wd_1239 nd_X4_prey rfl (by decide) ⟨Nat.le_of_succ_le hk, Nat.le_trans (Nat.le_add_right n 6) hn⟩ rfl (Nat.le_of_ble_eq_true rfl) dL_law_1655) ?_
  rintro z2 F2 ⟨rfl, hJ2⟩
  have hC2 : CI F2 A := hC1.kpM hJ2.2.1
  have hM2 : MI F2 A := hJ2.1
  have hr9 := py_range hM.iv
  refine q_icmp_eq C 1786 dL_law_1658 ⟨by omega, by omega⟩ ⟨by omega, by omega⟩ (by decide) (fun _ => ?_) (fun h => absurd rfl h)
  refine q_iinc (lv' := [(4, .int (iI (i + 5))), (3, .ref (adr w 120)), (2, .ref (adr w 110)), (1, .ref (adr w 0)), (0, .ref b)]) C 0 dL_law_1786 rfl (by decide) rfl ?_
  refine q_goto C 23 dL_law_1789 (by decide) ?_
  refine q_lv (lv' := [(4, .int (iI (i + 5))), (3, .ref (adr w 120)), (2, .ref (adr w 110)), (1, .ref (adr w 0)), (0, .ref b)]) [0, 1, 2, 3, 4] rfl ?_
  refine q_widen (k' := k + 1) (n' := n + 6) (by omega) (by omega) ?_
  exact hnext A F2 hC2 hM2

set_option maxRecDepth 100000 in
set_option maxHeartbeats 4000000 in
theorem law_25 (hC : LC p l s m meth c b L xs w) {i : Int} {k n : Nat} {F : FF} {A : AS} (hi : 0 ≤ i ∧ i + 5 ≤ (L : Int)) (hk : k + 1 ≤ 601024) (hn : n + 6 ≤ 7293034) (hA : CI F A) (hM : MI F A) (hnext : ∀ (B : AS) (G : FF), CI G B → MI G B → Wq p l e room_1 s m #[Value.ref b] below meth c Qf w (k + 1) (n + 6) 9 23 [(4, .int (iI (i + 5))), (3, .ref (adr w 120)), (2, .ref (adr w 110)), (1, .ref (adr w 0)), (0, .ref b)] [] G) : Wq p l e room_1 s m #[Value.ref b] below meth c Qf w k n 9 1663 [(4, .int (iI i)), (3, .ref (adr w 120)), (2, .ref (adr w 110)), (1, .ref (adr w 0)), (0, .ref b)] [] F := by
  obtain ⟨C, hl, hX, hbl, hbA, hL, hwb⟩ := hC
  have hV := hA.v
  refine q_aload_n C 3 dL_law_1663 rfl ?_
  refine q_aload_n C 4 dL_law_1664 rfl ?_
  refine q_iload C 0 dL_law_1665 rfl ?_
  refine q_iconst C 1 dL_law_1667 ?_
  refine q_iadd C dL_law_1668 ?_
  refine q_sld C hX hbl hbA ⟨by omega, by omega⟩ dL_law_1669 ?_
  refine q_aload_n C 4 dL_law_1670 rfl ?_
  refine q_iload C 0 dL_law_1671 rfl ?_
  refine q_iconst C 2 dL_law_1673 ?_
  refine q_iadd C dL_law_1674 ?_
  refine q_sld C hX hbl hbA ⟨by omega, by omega⟩ dL_law_1675 ?_
  refine q_aload_n C 1 dL_law_1676 rfl ?_
  refine q_cW (q_runW (As := [.ref (adr w 0), .int (iI (sc xs (i + 1))), .int (iI (sc xs (i + 2))), .ref (adr w 120)]) (rest := []) C (k_L_ifSlept l hl hA (sc_in _ _) (sc_in _ _)) wd_854 wd_853 wd_76 wd_852 nd_L_ifSlept rfl (by decide) ⟨hk, hn⟩ rfl (Nat.le_of_ble_eq_true rfl) dL_law_1677) (fun z F1 hp => ?_)
  obtain ⟨hz1, hN1, hF1⟩ := hp
  subst hz1
  have hM1 := hM.kpL hF1
  refine q_istore (lv' := [(5, .int (iI (ifSleptT A (sc xs (i + 1)) (sc xs (i + 2))))), (4, .int (iI i)), (3, .ref (adr w 120)), (2, .ref (adr w 110)), (1, .ref (adr w 0)), (0, .ref b)]) C dL_law_1680 (by decide) rfl ?_
  refine q_aload_n C 3 dL_law_1682 rfl ?_
  refine q_aload_n C 5 dL_law_1683 rfl ?_
  refine q_iload C 1 dL_law_1684 rfl ?_
  refine q_iconst C 1 dL_law_1686 ?_
  refine q_iadd C dL_law_1687 ?_
  refine q_sld C hX hbl hbA ⟨by omega, by omega⟩ dL_law_1688 ?_
  refine q_aload_n C 5 dL_law_1689 rfl ?_
  refine q_iload C 1 dL_law_1690 rfl ?_
  refine q_iconst C 2 dL_law_1692 ?_
  refine q_iadd C dL_law_1693 ?_
  refine q_sld C hX hbl hbA ⟨by omega, by omega⟩ dL_law_1694 ?_
  refine q_cI (q_runV (As := [.int (iI (sc xs (i + 1))), .int (iI (sc xs (i + 2)))]) (rest := []) C (k_X4_ifSlept l hM1 hV (sc_in _ _) (sc_in _ _)) kd110 (by decide) rfl wd_1246 wd_1244 wd_1245 wd_81 wd_1243 nd_X4_ifSlept rfl (by decide) ⟨hk, hn⟩ rfl (Nat.le_of_ble_eq_true rfl) dL_law_1695) ?_
  rintro z2 F2 hp2
  obtain ⟨hth, hzz, B, hCB, hMB⟩ := law_step hN1 hp2
  refine q_istore (lv' := [(6, .int (iI z2)), (5, .int (iI (ifSleptT A (sc xs (i + 1)) (sc xs (i + 2))))), (4, .int (iI i)), (3, .ref (adr w 120)), (2, .ref (adr w 110)), (1, .ref (adr w 0)), (0, .ref b)]) C dL_law_1698 (by decide) rfl ?_
  refine q_aload_n C 4 dL_law_1700 rfl ?_
  refine q_cI (q_runV (As := []) (rest := []) C (k_X4_thrown l) kd110 (by decide) rfl wd_920 wd_918 wd_919 wd_81 wd_917 nd_X4_thrown rfl (by decide) ⟨hk, hn⟩ rfl (Nat.le_of_ble_eq_true rfl) dL_law_1701) ?_
  rintro z3 F3 ⟨hz3, rfl⟩
  rw [hth] at hz3
  subst hz3
  have hTr := ifSleptT_r A (sc xs (i + 1)) (sc xs (i + 2))
  refine q_iload C 1 dL_law_1704 rfl ?_
  refine q_icmp_eq C 1711 dL_law_1706 ⟨by omega, by omega⟩ ⟨by omega, by omega⟩ (by decide) (fun _ => ?_) (fun h => absurd rfl h)
  refine q_iload C 1 dL_law_1711 rfl ?_
  refine q_if_ne C 1728 dL_law_1713 ⟨by omega, by omega⟩ (by decide) (fun h => ?_) (fun h => ?_)
  · refine q_goto C 1786 dL_law_1728 (by decide) ?_
    refine q_iinc (lv' := [(4, .int (iI (i + 5))), (6, .int (iI z2)), (5, .int (iI (ifSleptT A (sc xs (i + 1)) (sc xs (i + 2))))), (3, .ref (adr w 120)), (2, .ref (adr w 110)), (1, .ref (adr w 0)), (0, .ref b)]) C 2 dL_law_1786 rfl (by decide) rfl ?_
    refine q_goto C 23 dL_law_1789 (by decide) ?_
    refine q_lv (lv' := [(4, .int (iI (i + 5))), (3, .ref (adr w 120)), (2, .ref (adr w 110)), (1, .ref (adr w 0)), (0, .ref b)]) [0, 3, 4, 5, 6] rfl ?_
    exact hnext B F2 hCB hMB
  · obtain ⟨e1, e2⟩ := hzz h
    refine q_aload_n C 3 dL_law_1716 rfl ?_
    refine q_iconst C 0 dL_law_1717 ?_
    refine q_lald C kd120 ⟨by decide, by rw [ln120]; decide⟩ dL_law_1718 ?_
    rw [e1]
    refine q_iload C 0 dL_law_1719 rfl ?_
    refine q_i2l C dL_law_1721 ?_
    refine q_ltop (z' := wI (ifSleptZ A (sc xs (i + 1)) (sc xs (i + 2)))) (by rw [e2]; rfl) ?_
    refine q_lcmps (x := iL (wI _)) C dL_law_1722 ?_
    refine q_if_eq C 1728 dL_law_1723 ⟨by decide, by decide⟩ (by decide) (fun _ => ?_) (fun h => absurd rfl h)
    refine q_goto C 1786 dL_law_1728 (by decide) ?_
    refine q_iinc (lv' := [(4, .int (iI (i + 5))), (6, .int (iI z2)), (5, .int (iI (ifSleptT A (sc xs (i + 1)) (sc xs (i + 2))))), (3, .ref (adr w 120)), (2, .ref (adr w 110)), (1, .ref (adr w 0)), (0, .ref b)]) C 2 dL_law_1786 rfl (by decide) rfl ?_
    refine q_goto C 23 dL_law_1789 (by decide) ?_
    refine q_lv (lv' := [(4, .int (iI (i + 5))), (3, .ref (adr w 120)), (2, .ref (adr w 110)), (1, .ref (adr w 0)), (0, .ref b)]) [0, 3, 4, 5, 6] rfl ?_
    exact hnext B F2 hCB hMB

set_option maxRecDepth 100000 in
set_option maxHeartbeats 4000000 in
theorem law_26 (hC : LC p l s m meth c b L xs w) {i : Int} {k n : Nat} {F : FF} {A : AS} (hi : 0 ≤ i ∧ i + 5 ≤ (L : Int)) (hk : k + 1 ≤ 601024) (hn : n + 6 ≤ 7293034) (hA : CI F A) (hM : MI F A) (hnext : ∀ (B : AS) (G : FF), CI G B → MI G B → Wq p l e room_1 s m #[Value.ref b] below meth c Qf w (k + 1) (n + 6) 9 23 [(4, .int (iI (i + 5))), (3, .ref (adr w 120)), (2, .ref (adr w 110)), (1, .ref (adr w 0)), (0, .ref b)] [] G) : Wq p l e room_1 s m #[Value.ref b] below meth c Qf w k n 9 1731 [(4, .int (iI i)), (3, .ref (adr w 120)), (2, .ref (adr w 110)), (1, .ref (adr w 0)), (0, .ref b)] [] F := by
  obtain ⟨C, hl, hX, hbl, hbA, hL, hwb⟩ := hC
  have hV := hA.v
  refine q_aload_n C 3 dL_law_1731 rfl ?_
  refine q_cD (q_runV (As := []) (rest := []) C (k_X3_shownShare l hA) kd0 (by decide) rfl wd_328 wd_326 wd_327 wd_77 wd_325 nd_X3_shownShare rfl (by decide) ⟨Nat.le_of_succ_le hk, Nat.le_trans (Nat.le_add_right n 6) hn⟩ rfl (Nat.le_of_ble_eq_true rfl) dL_law_1732) ?_
  rintro z1 F1 ⟨rfl, rfl⟩
  have hM1 := hM
  have hC1 := hA
  refine q_dstore (lv' := [(5, .double (shr (40 - bg A.r))), (4, .int (iI i)), (3, .ref (adr w 120)), (2, .ref (adr w 110)), (1, .ref (adr w 0)), (0, .ref b)]) C dL_law_1735 (by decide) rfl ?_
  refine q_aload_n C 3 dL_law_1737 rfl ?_
  refine q_cD (q_runV (As := []) (rest := []) C (k_X4_shownShare l hM1 hV) kd110 (by decide) rfl wd_1254 wd_1252 wd_1253 wd_81 wd_1251 nd_X4_shownShare rfl (by decide) ⟨Nat.le_of_succ_le hk, Nat.le_trans (Nat.le_add_right n 6) hn⟩ rfl (Nat.le_of_ble_eq_true rfl) dL_law_1738) ?_
  rintro z2 F2 ⟨rfl, hJ2⟩
  have hC2 : CI F2 A := hC1.kpM hJ2.2.1
  have hM2 : MI F2 A := hJ2.1
  refine q_dstore (lv' := [(7, .double (shr (40 - bg A.r))), (5, .double (shr (40 - bg A.r))), (4, .int (iI i)), (3, .ref (adr w 120)), (2, .ref (adr w 110)), (1, .ref (adr w 0)), (0, .ref b)]) C dL_law_1741 (by decide) rfl ?_
  refine q_dload C 1 dL_law_1743 rfl ?_
  refine q_dload C 0 dL_law_1745 rfl ?_
  have hbg := bg_range hM.iv
  refine q_dcmp C 0 (by rw [sh_eq9 (x := 40 - bg A.r) ⟨by omega, by omega⟩]; rfl) dL_law_1747 ?_
  refine q_if_eq C 1769 dL_law_1748 ⟨by decide, by decide⟩ (by decide) (fun _ => ?_) (fun h => absurd rfl h)
  refine q_goto C 1786 dL_law_1769 (by decide) ?_
  refine q_iinc (lv' := [(4, .int (iI (i + 5))), (7, .double (shr (40 - bg A.r))), (5, .double (shr (40 - bg A.r))), (3, .ref (adr w 120)), (2, .ref (adr w 110)), (1, .ref (adr w 0)), (0, .ref b)]) C 2 dL_law_1786 rfl (by decide) rfl ?_
  refine q_goto C 23 dL_law_1789 (by decide) ?_
  refine q_lv (lv' := [(4, .int (iI (i + 5))), (3, .ref (adr w 120)), (2, .ref (adr w 110)), (1, .ref (adr w 0)), (0, .ref b)]) [0, 3, 4, 5, 6] rfl ?_
  refine q_widen (k' := k + 1) (n' := n + 6) (by omega) (by omega) ?_
  exact hnext A F2 hC2 hM2

set_option maxRecDepth 100000 in
set_option maxHeartbeats 4000000 in
theorem law_27 (hC : LC p l s m meth c b L xs w) {i : Int} {k n : Nat} {F : FF} {A : AS} (hi : 0 ≤ i ∧ i + 5 ≤ (L : Int)) (hk : k + 1 ≤ 601024) (hn : n + 6 ≤ 7293034) (hA : CI F A) (hM : MI F A) (hnext : ∀ (B : AS) (G : FF), CI G B → MI G B → Wq p l e room_1 s m #[Value.ref b] below meth c Qf w (k + 1) (n + 6) 9 23 [(4, .int (iI (i + 5))), (3, .ref (adr w 120)), (2, .ref (adr w 110)), (1, .ref (adr w 0)), (0, .ref b)] [] G) : Wq p l e room_1 s m #[Value.ref b] below meth c Qf w k n 9 1772 [(4, .int (iI i)), (3, .ref (adr w 120)), (2, .ref (adr w 110)), (1, .ref (adr w 0)), (0, .ref b)] [] F := by
  obtain ⟨C, hl, hX, hbl, hbA, hL, hwb⟩ := hC
  have hV := hA.v
  refine q_aload_n C 3 dL_law_1772 rfl ?_
  refine q_cL (q_runV (As := []) (rest := []) C (k_X3_digest l hA) kd0 (by decide) rfl wd_341 wd_339 wd_340 wd_77 wd_338 nd_X3_digest rfl (by decide) ⟨Nat.le_of_succ_le hk, Nat.le_trans (Nat.le_add_right n 6) hn⟩ rfl (Nat.le_of_ble_eq_true rfl) dL_law_1773) ?_
  rintro z1 F1 ⟨rfl, hJ⟩
  have hM1 : MI F1 A := hM.kpL (fun k a _ => hJ.2 k a)
  have hC1 := hJ.1
  refine q_aload_n C 2 dL_law_1776 rfl ?_
  refine q_cL (q_runV (As := []) (rest := [.long (iL (dig A))]) C (k_X4_digest l hM1 hV) kd110 (by decide) rfl wd_1263 wd_1261 wd_1262 wd_81 wd_1260 nd_X4_digest rfl (by decide) ⟨Nat.le_of_succ_le hk, Nat.le_trans (Nat.le_add_right n 6) hn⟩ rfl (Nat.le_of_ble_eq_true rfl) dL_law_1777) ?_
  rintro z2 F2 ⟨rfl, hJ2⟩
  have hC2 : CI F2 A := hC1.kpM hJ2.2.1
  have hM2 : MI F2 A := hJ2.1
  refine q_lcmps (x := iL (dig A)) C dL_law_1780 ?_
  refine q_if_eq C 1786 dL_law_1781 ⟨by decide, by decide⟩ (by decide) (fun _ => ?_) (fun h => absurd rfl h)
  refine q_iinc (lv' := [(4, .int (iI (i + 5))), (3, .ref (adr w 120)), (2, .ref (adr w 110)), (1, .ref (adr w 0)), (0, .ref b)]) C 0 dL_law_1786 rfl (by decide) rfl ?_
  refine q_goto C 23 dL_law_1789 (by decide) ?_
  refine q_lv (lv' := [(4, .int (iI (i + 5))), (3, .ref (adr w 120)), (2, .ref (adr w 110)), (1, .ref (adr w 0)), (0, .ref b)]) [0, 1, 2, 3, 4] rfl ?_
  refine q_widen (k' := k + 1) (n' := n + 6) (by omega) (by omega) ?_
  exact hnext A F2 hC2 hM2

end LAWC
