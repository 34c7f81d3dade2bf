/-! what the law looks at -/
section QE
variable {p : Program} {l : Launch} {e : Env} {R : Room} {s : State} {m : MethodId} {args : Array Value} {below : List Frame} {meth : Method} {c : Code} {Qf : State → Prop} {w : WP} {k n nL pc : Nat} {lv lv' : List (Nat × Value)} {st : List Value} {F : FF} {cc : ByteArray} {own : String} {ret : Option FieldType}
theorem q_eqn (C : Cx p s m args meth c cc own ret nL w) {x y : Int} {off : Int} (tgt : Nat) (d : decode cc pc = .ok (.if_icmp .ne off, 3)) (ht : (pc : Int) + off = (tgt : Int)) (h : x = y) (kk : Wq p l e R s m args below meth c Qf w k n nL (pc + 3) lv st F) : Wq p l e R s m args below meth c Qf w k n nL pc lv (.int (iI y) :: .int (iI x) :: st) F :=
  fun H locs ls hH hS hl => lv_icmp_ne C.1 C.2.1 d ht (fun hc => absurd (by rw [h]) hc) (fun _ => kk H locs ls hH hS hl)
theorem q_eqe (C : Cx p s m args meth c cc own ret nL w) {x y : Int} {off : Int} (tgt : Nat) (d : decode cc pc = .ok (.if_icmp .eq off, 3)) (ht : (pc : Int) + off = (tgt : Int)) (h : x = y) (kk : Wq p l e R s m args below meth c Qf w k n nL tgt lv st F) : Wq p l e R s m args below meth c Qf w k n nL pc lv (.int (iI y) :: .int (iI x) :: st) F :=
  fun H locs ls hH hS hl => lv_icmp_eq C.1 C.2.1 d ht (fun _ => kk H locs ls hH hS hl) (fun hc => absurd (by rw [h]) hc)
end QE
theorem wpr_c (r : Rw) (x : Int) : wpr r x 0 = x % 4 ∧ wpr r x 1 = x / 4 % 5 ∧ wpr r x 2 = x % 3 + 1 ∧ (home r x = -1 → wpr r x 3 = -1 ∧ wpr r x 4 = -1) ∧ (¬ home r x = -1 → wpr r x 3 = home r x / 4 ∧ wpr r x 4 = home r x % 4) ∧ wpr r x 5 = plc r x ∧ wpr r x 6 = r (136 + x) :=
  ⟨rfl, rfl, rfl, fun e => ⟨if_pos e, if_pos e⟩, fun e => ⟨if_neg e, if_neg e⟩, rfl, rfl⟩
theorem lpr_c (r : Rw) (y : Int) : lpr r y 0 = r y ∧ lpr r y 1 = bo (wa r y) (r y) ∧ lpr r y 2 = lw r y ∧ lpr r y 3 = le r y ∧ lpr r y 4 = lc (r (112 + y) - 1) ∧ lpr r y 5 = lc (bor r y) ∧ lpr r y 6 = rh r y := ⟨rfl, rfl, rfl, rfl, rfl, rfl, rfl⟩
theorem dpr_c (r : Rw) (d : Int) : dpr r d 0 = dw r d ∧ dpr r d 1 = dwo r d ∧ dpr r d 2 = prs r d ∧ dpr r d 3 = r (128 + d) ∧ dpr r d 4 = r (132 + d) := ⟨rfl, rfl, rfl, rfl, rfl⟩
theorem cntv_c (A : AS) : cntv A 0 = bg A.r ∧ cntv A 1 = bg A.r ∧ cntv A 2 = A.r 179 ∧ cntv A 3 = rbs A.r ∧ cntv A 4 = A.r 180 ∧ cntv A 5 = A.r 181 ∧ cntv A 6 = lnt A.r ∧ cntv A 7 = aw A.r := ⟨rfl, rfl, rfl, rfl, rfl, rfl, rfl, rfl⟩
theorem W0_c (r : Rw) (l p : Int) : (0 ≤ p ∧ p < r l ∧ W0 r l p = wa r l p) ∨ (¬ (0 ≤ p ∧ p < r l) ∧ W0 r l p = -1) := by
  unfold W0
  by_cases q : 0 ≤ p ∧ p < r l
  · rw [if_pos q]; exact Or.inl ⟨q.1, q.2, rfl⟩
  · rw [if_neg q]; exact Or.inr ⟨q, rfl⟩
theorem bor_i {r : Rw} (hI : Iv r) {y j : Int} (hy : 0 ≤ y ∧ y < 16) (h0 : 0 ≤ j) (h1 : j < 16) : r (112 + j) = y + 1 ↔ bor r y = j := by
  constructor
  · intro e; exact bor_is hI hy.1 h0 h1 e
  · intro e
    have := (bor_at (r := r) (l := y) (by omega)).2.2
    rw [e] at this; exact this
def MXI (r : Rw) (y q mv : Int) : Prop := (mv = 1 ∧ ∀ k, 0 ≤ k → k < q → k + 1 < r y → clb (wa r y k) (wa r y (k + 1)) = false) ∨ (mv = 0 ∧ ∃ k, 0 ≤ k ∧ k + 1 < r y ∧ clb (wa r y k) (wa r y (k + 1)) = true)
theorem MXI_0 {r : Rw} {y : Int} : MXI r y 0 1 := Or.inl ⟨rfl, fun k a b => by omega⟩
theorem MXI_t {r : Rw} {y q : Int} (h0 : 0 ≤ q) (hn : 0 ≤ W0 r y q ∧ 0 ≤ W0 r y (q + 1)) (hc0 : (0 ≤ q ∧ q < r y ∧ W0 r y q = wa r y q) ∨ (¬ (0 ≤ q ∧ q < r y) ∧ W0 r y q = -1)) (hc1 : (0 ≤ q + 1 ∧ q + 1 < r y ∧ W0 r y (q + 1) = wa r y (q + 1)) ∨ (¬ (0 ≤ q + 1 ∧ q + 1 < r y) ∧ W0 r y (q + 1) = -1)) (e : W0 r y q % 4 = W0 r y (q + 1) % 4) (e2 : ¬ W0 r y q % 4 = 2) : MXI r y (q + 1) 0 := by
  refine Or.inr ⟨rfl, q, h0, by omega, decide_eq_true ⟨?_, ?_⟩⟩
  · show wa r y q % 4 = wa r y (q + 1) % 4
    omega
  · show ¬ wa r y q % 4 = 2
    omega
theorem MXI_f {r : Rw} {y q mv : Int} (h : MXI r y q mv) (hc0 : (0 ≤ q ∧ q < r y ∧ W0 r y q = wa r y q) ∨ (¬ (0 ≤ q ∧ q < r y) ∧ W0 r y q = -1)) (hc1 : (0 ≤ q + 1 ∧ q + 1 < r y ∧ W0 r y (q + 1) = wa r y (q + 1)) ∨ (¬ (0 ≤ q + 1 ∧ q + 1 < r y) ∧ W0 r y (q + 1) = -1)) (e : ¬ (0 ≤ W0 r y q ∧ 0 ≤ W0 r y (q + 1) ∧ W0 r y q % 4 = W0 r y (q + 1) % 4 ∧ ¬ W0 r y q % 4 = 2) ∨ mv = 0) (hw : Iv r) (hy : 0 ≤ y ∧ y < 16) : MXI r y (q + 1) mv := by
  rcases h with ⟨a, b⟩ | h
  · refine Or.inl ⟨a, fun k k0 k1 k2 => ?_⟩
    by_cases g : k = q
    · subst g
      have w0 := hw.wd hy.1 hy.2 (p := k) k0 (by omega)
      have w1 := hw.wd hy.1 hy.2 (p := k + 1) (by omega) k2
      refine clb_no ?_
      omega
    · exact b k k0 (by omega) k2
  · exact Or.inr h
theorem MXI_end {r : Rw} {y q mv : Int} (h : MXI r y q mv) (hq : 6 ≤ q) (hs : 0 ≤ r y ∧ r y ≤ 6) : (mv = 0 ∨ mv = 1) ∧ lpr r y 7 = mv := by
  have e : lpr r y 7 = if mx r y = true then 0 else 1 := rfl
  rw [e]
  rcases h with ⟨a, b⟩ | ⟨a, k, k0, k1, k2⟩
  · have : mx r y = false := an_f.mpr (fun i i0 i1 => b i i0 (by omega) (by omega))
    rw [this]
    exact ⟨Or.inr a, by rw [a]; rfl⟩
  · have : mx r y = true := an_iff.mpr ⟨k, k0, by omega, k2⟩
    rw [this]
    exact ⟨Or.inl a, by rw [a]; rfl⟩
def lnT (r : Rw) : Int → Int := fun l => if 0 < r (112 + l) then 1 else 0
theorem lnT_0 {r : Rw} {l : Int} (h : ¬ 0 < r (112 + l)) : lnT r l = 0 := if_neg h
theorem lnT_1 {r : Rw} {l : Int} (h : 0 < r (112 + l)) : lnT r l = 1 := if_pos h
theorem lnT_all (r : Rw) : sm (lnT r) 16 = lnt r := rfl
theorem rT_i {r : Rw} {d i j : Int} (h : 4 * d + j = i) : rT r d j = rh r i := by subst h; rfl
theorem sm_16 (f : Int → Int) : sm f 16 = sm (fun d => sm (fun i => f (4 * d + i)) 4) 4 := by
  rw [sm_4, sm_4, sm_4, sm_4, sm_4]
  show 0 + f 0 + f 1 + f 2 + f 3 + f 4 + f 5 + f 6 + f 7 + f 8 + f 9 + f 10 + f 11 + f 12 + f 13 + f 14 + f 15 = (f 0 + f 1 + f 2 + f 3) + (f 4 + f 5 + f 6 + f 7) + (f 8 + f 9 + f 10 + f 11) + (f 12 + f 13 + f 14 + f 15)
  omega
theorem sh_bg (r : Rw) : sm (dwo r) 4 = 40 - bg r := by
  have : bg r = 40 - sm (fun l => r l) 16 := rfl
  rw [this, sm_16]
  show sm (dwo r) 4 = 40 - (40 - sm (dwo r) 4)
  omega
theorem sv_rbs (r : Rw) : sm (fun j => r (132 + j)) 4 = rbs r := by rw [sm_4]; rfl
theorem sh_cmp {x y : Int} (h : x = y) (hy : 0 ≤ y ∧ y ≤ 40) : Jvm.Op.cmpValue (Jvm.FP.dcmp (shr x) (shr y)) .l = iI 0 := by
  subst h
  have := sh_eq x.toNat (List.mem_range.mpr (by omega))
  rw [Int.toNat_of_nonneg hy.1] at this
  rw [this]; decide

set_option maxRecDepth 100000 in
set_option maxHeartbeats 4000000 in
theorem k_L_areWords (l : Launch) {w : WP} {F : FF} {a b nn t : Nat} {A : AS} (hLa : LwP w a 40) (hLb : LwP w b 16) (hLn : LwP w nn 14) (hLt : LwP w t 40) (hTA : TA F a b nn t A.r) (hA : CI F A)  : Con l yL_areWords cL_areWords 6 (some .boolean) 4 w [.ref (adr w 0), .ref (adr w a), .ref (adr w t)] F (QI w (fun z F' => z = 1 ∧ F = F')) := by
  refine Con.mk (lv := [(0, .ref (adr w 0)), (1, .ref (adr w a)), (2, .ref (adr w t))]) (by decide) (Nat.le_of_ble_eq_true rfl) rfl ?_
  intro pg ev s0 mi be me co C hz
  obtain ⟨hW, hL, hN, hT, hI⟩ := id hTA
  refine q_iconst C 1 dL_areWords_0 ?_
  refine q_istore_n (lv' := [(3, .int (iI 1)), (0, .ref (adr w 0)), (1, .ref (adr w a)), (2, .ref (adr w t))]) C dL_areWords_1 (by decide) rfl ?_
  refine q_iconst C 0 dL_areWords_2 ?_
  refine q_istore (lv' := [(4, .int (iI 0)), (3, .int (iI 1)), (0, .ref (adr w 0)), (1, .ref (adr w a)), (2, .ref (adr w t))]) C dL_areWords_3 (by decide) rfl ?_
  refine q_lv (lv' := [(0, .ref (adr w 0)), (1, .ref (adr w a)), (2, .ref (adr w t)), (3, .int (iI 1)), (4, .int (iI 0))]) [2, 3, 4, 1, 0] rfl ?_
  refine wf1 (P := fun (i : Int) => Wq pg l ev _ s0 mi _ be me co _ w _ _ _ 5 [(0, .ref (adr w 0)), (1, .ref (adr w a)), (2, .ref (adr w t)), (3, .int (iI 1)), (4, .int (iI i))] [] F) (I := fun (i : Int) => 0 ≤ i ∧ i ≤ 40) (μ := fun (i : Int) => (40 - i).toNat) ?_ 0 (⟨by omega, by omega⟩)
  intro i hI' ih5
  (try dsimp only at hI'); (try dsimp only at ih5); (try dsimp only)
  obtain ⟨hi0, hi1⟩ := hI'
  refine q_iload C 4 dL_areWords_5 rfl ?_
  refine q_bipush C 40 dL_areWords_7 (by decide) ?_
  refine q_icmp_ge C 183 dL_areWords_9 ⟨by omega, by omega⟩ ⟨by decide, by decide⟩ (by decide) (fun h9 => ?_) (fun h9 => ?_)
  · refine q_iload_n C 3 dL_areWords_183 rfl ?_
    refine q_zret C dL_areWords_184 (by decide) ?_
    exact ⟨rfl, rfl⟩
  · refine q_iload_n C 3 dL_areWords_12 rfl ?_
    refine q_if_eq C 183 dL_areWords_13 ⟨by decide, by decide⟩  (by decide) (fun h => absurd h (by decide)) (fun _ => ?_)
    have hf := hW i (by omega) (by omega)
    have hc := whv_c hI i
    have hwp := wpr_c A.r i
    have hti := hT i (by omega) (by omega)
    refine q_aload_n C 1 dL_areWords_16 rfl ?_
    refine q_iload C 4 dL_areWords_17 rfl ?_
    refine q_iald9 C hLa ⟨by omega, by omega⟩ dL_areWords_19 ?_
    refine q_if_lt C 27 dL_areWords_20 ⟨by omega, by omega⟩  (by decide) (fun h20 => ?_) (fun h20 => ?_)
    · refine q_iconst C 0 dL_areWords_27 ?_
      refine q_istore (lv' := [(5, .int (iI 0)), (0, .ref (adr w 0)), (1, .ref (adr w a)), (2, .ref (adr w t)), (3, .int (iI 1)), (4, .int (iI i))]) C dL_areWords_28 (by decide) rfl ?_
      refine q_aload_n C 1 dL_areWords_30 rfl ?_
      refine q_iload C 5 dL_areWords_31 rfl ?_
      refine q_iconst C 0 dL_areWords_33 ?_
      refine q_cI (q_runV (As := [.int (iI i), .int (iI 0)]) (rest := []) C ((k_X3_wordOf (F := F) l hA (x := i) (k := 0) ⟨by omega, by omega⟩ ⟨by decide, by decide⟩ (by unfold wordOfT; rw [if_neg (by omega), if_neg (by omega)])).post (fun z F' h => (⟨h.1.trans (rfl), h.2⟩ : z = wpr A.r i 0 ∧ F = F'))) kd0 (by decide) rfl wd_171 wd_169 wd_170 wd_13 wd_168 nd_X3_wordOf rfl (by decide) ⟨Nat.zero_le _, Nat.zero_le _⟩ rfl (Nat.le_of_ble_eq_true rfl) dL_areWords_34) ?_
      rintro z F' ⟨rfl, rfl⟩
      refine q_iload C 5 dL_areWords_37 rfl ?_
      refine q_iconst C 4 dL_areWords_39 ?_
      refine q_irem C dL_areWords_40 ⟨by omega, by omega⟩ ⟨by decide, by decide⟩ ?_
      refine q_eqn C 175 dL_areWords_41 (by decide) (by omega) ?_
      refine q_aload_n C 1 dL_areWords_44 rfl ?_
      refine q_iload C 5 dL_areWords_45 rfl ?_
      refine q_iconst C 1 dL_areWords_47 ?_
      refine q_cI (q_runV (As := [.int (iI i), .int (iI 1)]) (rest := []) C ((k_X3_wordOf (F := F) l hA (x := i) (k := 1) ⟨by omega, by omega⟩ ⟨by decide, by decide⟩ (by unfold wordOfT; rw [if_neg (by omega), if_neg (by omega)])).post (fun z F' h => (⟨h.1.trans (rfl), h.2⟩ : z = wpr A.r i 1 ∧ F = F'))) kd0 (by decide) rfl wd_171 wd_169 wd_170 wd_13 wd_168 nd_X3_wordOf rfl (by decide) ⟨Nat.zero_le _, Nat.zero_le _⟩ rfl (Nat.le_of_ble_eq_true rfl) dL_areWords_48) ?_
      rintro z F' ⟨rfl, rfl⟩
      refine q_iload C 5 dL_areWords_51 rfl ?_
      refine q_iconst C 4 dL_areWords_53 ?_
      refine q_idiv C dL_areWords_54 ⟨by omega, by omega⟩ ⟨by decide, by decide⟩ ?_
      refine q_iconst C 5 dL_areWords_55 ?_
      refine q_irem C dL_areWords_56 ⟨by omega, by omega⟩ ⟨by decide, by decide⟩ ?_
      refine q_eqn C 175 dL_areWords_57 (by decide) (by omega) ?_
      refine q_aload_n C 1 dL_areWords_60 rfl ?_
      refine q_iload C 5 dL_areWords_61 rfl ?_
      refine q_iconst C 2 dL_areWords_63 ?_
      refine q_cI (q_runV (As := [.int (iI i), .int (iI 2)]) (rest := []) C ((k_X3_wordOf (F := F) l hA (x := i) (k := 2) ⟨by omega, by omega⟩ ⟨by decide, by decide⟩ (by unfold wordOfT; rw [if_neg (by omega), if_neg (by omega)])).post (fun z F' h => (⟨h.1.trans (rfl), h.2⟩ : z = wpr A.r i 2 ∧ F = F'))) kd0 (by decide) rfl wd_171 wd_169 wd_170 wd_13 wd_168 nd_X3_wordOf rfl (by decide) ⟨Nat.zero_le _, Nat.zero_le _⟩ rfl (Nat.le_of_ble_eq_true rfl) dL_areWords_64) ?_
      rintro z F' ⟨rfl, rfl⟩
      refine q_iconst C 1 dL_areWords_67 ?_
      refine q_iload C 5 dL_areWords_68 rfl ?_
      refine q_iconst C 3 dL_areWords_70 ?_
      refine q_irem C dL_areWords_71 ⟨by omega, by omega⟩ ⟨by decide, by decide⟩ ?_
      refine q_iadd C dL_areWords_72 ?_
      refine q_eqn C 175 dL_areWords_73 (by decide) (by omega) ?_
      refine q_aload_n C 1 dL_areWords_76 rfl ?_
      refine q_iload C 5 dL_areWords_77 rfl ?_
      refine q_iconst C 3 dL_areWords_79 ?_
      refine q_cI (q_runV (As := [.int (iI i), .int (iI 3)]) (rest := []) C ((k_X3_wordOf (F := F) l hA (x := i) (k := 3) ⟨by omega, by omega⟩ ⟨by decide, by decide⟩ (by unfold wordOfT; rw [if_neg (by omega), if_neg (by omega)])).post (fun z F' h => (⟨h.1.trans (rfl), h.2⟩ : z = wpr A.r i 3 ∧ F = F'))) kd0 (by decide) rfl wd_171 wd_169 wd_170 wd_13 wd_168 nd_X3_wordOf rfl (by decide) ⟨Nat.zero_le _, Nat.zero_le _⟩ rfl (Nat.le_of_ble_eq_true rfl) dL_areWords_80) ?_
      rintro z F' ⟨rfl, rfl⟩
      refine q_iload C 0 dL_areWords_83 rfl ?_
      refine q_if_eq C 98 dL_areWords_85 ⟨by decide, by decide⟩  (by decide) (fun _ => ?_) (fun h => absurd h (by decide))
      refine q_iconst C (-1) dL_areWords_98 ?_
      refine q_eqn C 175 dL_areWords_99 (by decide) (by omega) ?_
      refine q_aload_n C 1 dL_areWords_102 rfl ?_
      refine q_iload C 5 dL_areWords_103 rfl ?_
      refine q_iconst C 4 dL_areWords_105 ?_
      refine q_cI (q_runV (As := [.int (iI i), .int (iI 4)]) (rest := []) C ((k_X3_wordOf (F := F) l hA (x := i) (k := 4) ⟨by omega, by omega⟩ ⟨by decide, by decide⟩ (by unfold wordOfT; rw [if_neg (by omega), if_neg (by omega)])).post (fun z F' h => (⟨h.1.trans (rfl), h.2⟩ : z = wpr A.r i 4 ∧ F = F'))) kd0 (by decide) rfl wd_171 wd_169 wd_170 wd_13 wd_168 nd_X3_wordOf rfl (by decide) ⟨Nat.zero_le _, Nat.zero_le _⟩ rfl (Nat.le_of_ble_eq_true rfl) dL_areWords_106) ?_
      rintro z F' ⟨rfl, rfl⟩
      refine q_iload C 0 dL_areWords_109 rfl ?_
      refine q_if_eq C 126 dL_areWords_111 ⟨by decide, by decide⟩  (by decide) (fun _ => ?_) (fun h => absurd h (by decide))
      refine q_iconst C (-1) dL_areWords_126 ?_
      refine q_eqn C 175 dL_areWords_127 (by decide) (by omega) ?_
      refine q_aload_n C 1 dL_areWords_130 rfl ?_
      refine q_iload C 5 dL_areWords_131 rfl ?_
      refine q_iconst C 5 dL_areWords_133 ?_
      refine q_cI (q_runV (As := [.int (iI i), .int (iI 5)]) (rest := []) C ((k_X3_wordOf (F := F) l hA (x := i) (k := 5) ⟨by omega, by omega⟩ ⟨by decide, by decide⟩ (by unfold wordOfT; rw [if_neg (by omega), if_neg (by omega)])).post (fun z F' h => (⟨h.1.trans (rfl), h.2⟩ : z = wpr A.r i 5 ∧ F = F'))) kd0 (by decide) rfl wd_171 wd_169 wd_170 wd_13 wd_168 nd_X3_wordOf rfl (by decide) ⟨Nat.zero_le _, Nat.zero_le _⟩ rfl (Nat.le_of_ble_eq_true rfl) dL_areWords_134) ?_
      rintro z F' ⟨rfl, rfl⟩
      refine q_iload C 0 dL_areWords_137 rfl ?_
      refine q_if_eq C 152 dL_areWords_139 ⟨by decide, by decide⟩  (by decide) (fun _ => ?_) (fun h => absurd h (by decide))
      refine q_iconst C (-1) dL_areWords_152 ?_
      refine q_eqn C 175 dL_areWords_153 (by decide) (by omega) ?_
      refine q_aload_n C 1 dL_areWords_156 rfl ?_
      refine q_iload C 5 dL_areWords_157 rfl ?_
      refine q_bipush C 6 dL_areWords_159 (by decide) ?_
      refine q_cI (q_runV (As := [.int (iI i), .int (iI 6)]) (rest := []) C ((k_X3_wordOf (F := F) l hA (x := i) (k := 6) ⟨by omega, by omega⟩ ⟨by decide, by decide⟩ (by unfold wordOfT; rw [if_neg (by omega), if_neg (by omega)])).post (fun z F' h => (⟨h.1.trans (rfl), h.2⟩ : z = wpr A.r i 6 ∧ F = F'))) kd0 (by decide) rfl wd_171 wd_169 wd_170 wd_13 wd_168 nd_X3_wordOf rfl (by decide) ⟨Nat.zero_le _, Nat.zero_le _⟩ rfl (Nat.le_of_ble_eq_true rfl) dL_areWords_161) ?_
      rintro z F' ⟨rfl, rfl⟩
      refine q_aload_n C 3 dL_areWords_164 rfl ?_
      refine q_iload C 5 dL_areWords_165 rfl ?_
      refine q_iald9 C hLt ⟨by omega, by omega⟩ dL_areWords_167 ?_
      refine q_eqn C 175 dL_areWords_168 (by decide) (by omega) ?_
      refine q_iconst C 1 dL_areWords_171 ?_
      refine q_goto C 176 dL_areWords_172 (by decide) ?_
      refine q_istore_n (lv' := [(3, .int (iI 1)), (5, .int (iI 0)), (0, .ref (adr w 0)), (1, .ref (adr w a)), (2, .ref (adr w t)), (4, .int (iI i))]) C dL_areWords_176 (by decide) rfl ?_
      refine q_iinc (lv' := [(4, .int (iI (i + 1))), (3, .int (iI 1)), (5, .int (iI 0)), (0, .ref (adr w 0)), (1, .ref (adr w a)), (2, .ref (adr w t))]) C 5 dL_areWords_177 rfl (by decide) rfl ?_
      refine q_goto C 5 dL_areWords_180 (by decide) ?_
      refine q_lv (lv' := [(0, .ref (adr w 0)), (1, .ref (adr w a)), (2, .ref (adr w t)), (3, .int (iI 1)), (4, .int (iI (i + 1)))]) [3, 4, 5, 1, 0] rfl ?_
      exact ih5 (i + 1) (⟨by omega, by omega⟩) (by omega)
    · refine q_iconst C 1 dL_areWords_23 ?_
      refine q_goto C 28 dL_areWords_24 (by decide) ?_
      refine q_istore (lv' := [(5, .int (iI 1)), (0, .ref (adr w 0)), (1, .ref (adr w a)), (2, .ref (adr w t)), (3, .int (iI 1)), (4, .int (iI i))]) C dL_areWords_28 (by decide) rfl ?_
      refine q_aload_n C 1 dL_areWords_30 rfl ?_
      refine q_iload C 5 dL_areWords_31 rfl ?_
      refine q_iconst C 0 dL_areWords_33 ?_
      refine q_cI (q_runV (As := [.int (iI i), .int (iI 0)]) (rest := []) C ((k_X3_wordOf (F := F) l hA (x := i) (k := 0) ⟨by omega, by omega⟩ ⟨by decide, by decide⟩ (by unfold wordOfT; rw [if_neg (by omega), if_neg (by omega)])).post (fun z F' h => (⟨h.1.trans (rfl), h.2⟩ : z = wpr A.r i 0 ∧ F = F'))) kd0 (by decide) rfl wd_171 wd_169 wd_170 wd_13 wd_168 nd_X3_wordOf rfl (by decide) ⟨Nat.zero_le _, Nat.zero_le _⟩ rfl (Nat.le_of_ble_eq_true rfl) dL_areWords_34) ?_
      rintro z F' ⟨rfl, rfl⟩
      refine q_iload C 5 dL_areWords_37 rfl ?_
      refine q_iconst C 4 dL_areWords_39 ?_
      refine q_irem C dL_areWords_40 ⟨by omega, by omega⟩ ⟨by decide, by decide⟩ ?_
      refine q_eqn C 175 dL_areWords_41 (by decide) (by omega) ?_
      refine q_aload_n C 1 dL_areWords_44 rfl ?_
      refine q_iload C 5 dL_areWords_45 rfl ?_
      refine q_iconst C 1 dL_areWords_47 ?_
      refine q_cI (q_runV (As := [.int (iI i), .int (iI 1)]) (rest := []) C ((k_X3_wordOf (F := F) l hA (x := i) (k := 1) ⟨by omega, by omega⟩ ⟨by decide, by decide⟩ (by unfold wordOfT; rw [if_neg (by omega), if_neg (by omega)])).post (fun z F' h => (⟨h.1.trans (rfl), h.2⟩ : z = wpr A.r i 1 ∧ F = F'))) kd0 (by decide) rfl wd_171 wd_169 wd_170 wd_13 wd_168 nd_X3_wordOf rfl (by decide) ⟨Nat.zero_le _, Nat.zero_le _⟩ rfl (Nat.le_of_ble_eq_true rfl) dL_areWords_48) ?_
      rintro z F' ⟨rfl, rfl⟩
      refine q_iload C 5 dL_areWords_51 rfl ?_
      refine q_iconst C 4 dL_areWords_53 ?_
      refine q_idiv C dL_areWords_54 ⟨by omega, by omega⟩ ⟨by decide, by decide⟩ ?_
      refine q_iconst C 5 dL_areWords_55 ?_
      refine q_irem C dL_areWords_56 ⟨by omega, by omega⟩ ⟨by decide, by decide⟩ ?_
      refine q_eqn C 175 dL_areWords_57 (by decide) (by omega) ?_
      refine q_aload_n C 1 dL_areWords_60 rfl ?_
      refine q_iload C 5 dL_areWords_61 rfl ?_
      refine q_iconst C 2 dL_areWords_63 ?_
      refine q_cI (q_runV (As := [.int (iI i), .int (iI 2)]) (rest := []) C ((k_X3_wordOf (F := F) l hA (x := i) (k := 2) ⟨by omega, by omega⟩ ⟨by decide, by decide⟩ (by unfold wordOfT; rw [if_neg (by omega), if_neg (by omega)])).post (fun z F' h => (⟨h.1.trans (rfl), h.2⟩ : z = wpr A.r i 2 ∧ F = F'))) kd0 (by decide) rfl wd_171 wd_169 wd_170 wd_13 wd_168 nd_X3_wordOf rfl (by decide) ⟨Nat.zero_le _, Nat.zero_le _⟩ rfl (Nat.le_of_ble_eq_true rfl) dL_areWords_64) ?_
      rintro z F' ⟨rfl, rfl⟩
      refine q_iconst C 1 dL_areWords_67 ?_
      refine q_iload C 5 dL_areWords_68 rfl ?_
      refine q_iconst C 3 dL_areWords_70 ?_
      refine q_irem C dL_areWords_71 ⟨by omega, by omega⟩ ⟨by decide, by decide⟩ ?_
      refine q_iadd C dL_areWords_72 ?_
      refine q_eqn C 175 dL_areWords_73 (by decide) (by omega) ?_
      refine q_aload_n C 1 dL_areWords_76 rfl ?_
      refine q_iload C 5 dL_areWords_77 rfl ?_
      refine q_iconst C 3 dL_areWords_79 ?_
      refine q_cI (q_runV (As := [.int (iI i), .int (iI 3)]) (rest := []) C ((k_X3_wordOf (F := F) l hA (x := i) (k := 3) ⟨by omega, by omega⟩ ⟨by decide, by decide⟩ (by unfold wordOfT; rw [if_neg (by omega), if_neg (by omega)])).post (fun z F' h => (⟨h.1.trans (rfl), h.2⟩ : z = wpr A.r i 3 ∧ F = F'))) kd0 (by decide) rfl wd_171 wd_169 wd_170 wd_13 wd_168 nd_X3_wordOf rfl (by decide) ⟨Nat.zero_le _, Nat.zero_le _⟩ rfl (Nat.le_of_ble_eq_true rfl) dL_areWords_80) ?_
      rintro z F' ⟨rfl, rfl⟩
      refine q_iload C 0 dL_areWords_83 rfl ?_
      refine q_if_eq C 98 dL_areWords_85 ⟨by decide, by decide⟩  (by decide) (fun h => absurd h (by decide)) (fun _ => ?_)
      refine q_aload_n C 2 dL_areWords_88 rfl ?_
      refine q_iload C 5 dL_areWords_89 rfl ?_
      refine q_iald9 C hLa ⟨by omega, by omega⟩ dL_areWords_91 ?_
      refine q_bipush C 32 dL_areWords_92 (by decide) ?_
      refine q_idiv C dL_areWords_94 ⟨by omega, by omega⟩ ⟨by decide, by decide⟩ ?_
      refine q_goto C 99 dL_areWords_95 (by decide) ?_
      refine q_eqn C 175 dL_areWords_99 (by decide) (by omega) ?_
      refine q_aload_n C 1 dL_areWords_102 rfl ?_
      refine q_iload C 5 dL_areWords_103 rfl ?_
      refine q_iconst C 4 dL_areWords_105 ?_
      refine q_cI (q_runV (As := [.int (iI i), .int (iI 4)]) (rest := []) C ((k_X3_wordOf (F := F) l hA (x := i) (k := 4) ⟨by omega, by omega⟩ ⟨by decide, by decide⟩ (by unfold wordOfT; rw [if_neg (by omega), if_neg (by omega)])).post (fun z F' h => (⟨h.1.trans (rfl), h.2⟩ : z = wpr A.r i 4 ∧ F = F'))) kd0 (by decide) rfl wd_171 wd_169 wd_170 wd_13 wd_168 nd_X3_wordOf rfl (by decide) ⟨Nat.zero_le _, Nat.zero_le _⟩ rfl (Nat.le_of_ble_eq_true rfl) dL_areWords_106) ?_
      rintro z F' ⟨rfl, rfl⟩
      refine q_iload C 0 dL_areWords_109 rfl ?_
      refine q_if_eq C 126 dL_areWords_111 ⟨by decide, by decide⟩  (by decide) (fun h => absurd h (by decide)) (fun _ => ?_)
      refine q_aload_n C 2 dL_areWords_114 rfl ?_
      refine q_iload C 5 dL_areWords_115 rfl ?_
      refine q_iald9 C hLa ⟨by omega, by omega⟩ dL_areWords_117 ?_
      refine q_bipush C 8 dL_areWords_118 (by decide) ?_
      refine q_idiv C dL_areWords_120 ⟨by omega, by omega⟩ ⟨by decide, by decide⟩ ?_
      refine q_iconst C 4 dL_areWords_121 ?_
      refine q_irem C dL_areWords_122 ⟨by omega, by omega⟩ ⟨by decide, by decide⟩ ?_
      refine q_goto C 127 dL_areWords_123 (by decide) ?_
      refine q_eqn C 175 dL_areWords_127 (by decide) (by omega) ?_
      refine q_aload_n C 1 dL_areWords_130 rfl ?_
      refine q_iload C 5 dL_areWords_131 rfl ?_
      refine q_iconst C 5 dL_areWords_133 ?_
      refine q_cI (q_runV (As := [.int (iI i), .int (iI 5)]) (rest := []) C ((k_X3_wordOf (F := F) l hA (x := i) (k := 5) ⟨by omega, by omega⟩ ⟨by decide, by decide⟩ (by unfold wordOfT; rw [if_neg (by omega), if_neg (by omega)])).post (fun z F' h => (⟨h.1.trans (rfl), h.2⟩ : z = wpr A.r i 5 ∧ F = F'))) kd0 (by decide) rfl wd_171 wd_169 wd_170 wd_13 wd_168 nd_X3_wordOf rfl (by decide) ⟨Nat.zero_le _, Nat.zero_le _⟩ rfl (Nat.le_of_ble_eq_true rfl) dL_areWords_134) ?_
      rintro z F' ⟨rfl, rfl⟩
      refine q_iload C 0 dL_areWords_137 rfl ?_
      refine q_if_eq C 152 dL_areWords_139 ⟨by decide, by decide⟩  (by decide) (fun h => absurd h (by decide)) (fun _ => ?_)
      refine q_aload_n C 2 dL_areWords_142 rfl ?_
      refine q_iload C 5 dL_areWords_143 rfl ?_
      refine q_iald9 C hLa ⟨by omega, by omega⟩ dL_areWords_145 ?_
      refine q_bipush C 8 dL_areWords_146 (by decide) ?_
      refine q_irem C dL_areWords_148 ⟨by omega, by omega⟩ ⟨by decide, by decide⟩ ?_
      refine q_goto C 153 dL_areWords_149 (by decide) ?_
      refine q_eqn C 175 dL_areWords_153 (by decide) (by omega) ?_
      refine q_aload_n C 1 dL_areWords_156 rfl ?_
      refine q_iload C 5 dL_areWords_157 rfl ?_
      refine q_bipush C 6 dL_areWords_159 (by decide) ?_
      refine q_cI (q_runV (As := [.int (iI i), .int (iI 6)]) (rest := []) C ((k_X3_wordOf (F := F) l hA (x := i) (k := 6) ⟨by omega, by omega⟩ ⟨by decide, by decide⟩ (by unfold wordOfT; rw [if_neg (by omega), if_neg (by omega)])).post (fun z F' h => (⟨h.1.trans (rfl), h.2⟩ : z = wpr A.r i 6 ∧ F = F'))) kd0 (by decide) rfl wd_171 wd_169 wd_170 wd_13 wd_168 nd_X3_wordOf rfl (by decide) ⟨Nat.zero_le _, Nat.zero_le _⟩ rfl (Nat.le_of_ble_eq_true rfl) dL_areWords_161) ?_
      rintro z F' ⟨rfl, rfl⟩
      refine q_aload_n C 3 dL_areWords_164 rfl ?_
      refine q_iload C 5 dL_areWords_165 rfl ?_
      refine q_iald9 C hLt ⟨by omega, by omega⟩ dL_areWords_167 ?_
      refine q_eqn C 175 dL_areWords_168 (by decide) (by omega) ?_
      refine q_iconst C 1 dL_areWords_171 ?_
      refine q_goto C 176 dL_areWords_172 (by decide) ?_
      refine q_istore_n (lv' := [(3, .int (iI 1)), (5, .int (iI 1)), (0, .ref (adr w 0)), (1, .ref (adr w a)), (2, .ref (adr w t)), (4, .int (iI i))]) C dL_areWords_176 (by decide) rfl ?_
      refine q_iinc (lv' := [(4, .int (iI (i + 1))), (3, .int (iI 1)), (5, .int (iI 1)), (0, .ref (adr w 0)), (1, .ref (adr w a)), (2, .ref (adr w t))]) C 5 dL_areWords_177 rfl (by decide) rfl ?_
      refine q_goto C 5 dL_areWords_180 (by decide) ?_
      refine q_lv (lv' := [(0, .ref (adr w 0)), (1, .ref (adr w a)), (2, .ref (adr w t)), (3, .int (iI 1)), (4, .int (iI (i + 1)))]) [3, 4, 5, 1, 0] rfl ?_
      exact ih5 (i + 1) (⟨by omega, by omega⟩) (by omega)

set_option maxRecDepth 100000 in
set_option maxHeartbeats 4000000 in
theorem k_L_isLine (l : Launch) {w : WP} {F : FF} {a b nn t : Nat} {A : AS} (hLa : LwP w a 40) (hLb : LwP w b 16) (hLn : LwP w nn 14) (hLt : LwP w t 40) (hTA : TA F a b nn t A.r) (hA : CI F A) {y : Int} (hy : 0 ≤ y ∧ y < 16)  : Con l yL_isLine cL_isLine 12 (some .boolean) 5 w [.ref (adr w 0), .ref (adr w a), .ref (adr w b), .int (iI y)] F (QI w (fun z F' => z = 1 ∧ F = F')) := by
  refine Con.mk (lv := [(0, .ref (adr w 0)), (1, .ref (adr w a)), (2, .ref (adr w b)), (3, .int (iI y))]) (by decide) (Nat.le_of_ble_eq_true rfl) rfl ?_
  intro pg ev s0 mi be me co C hz
  obtain ⟨hW, hL, hN, hT, hI⟩ := id hTA
  have hlp := lpr_c A.r y
  have hbr := bor_range A.r y
  have hld := hI.ld hy.1 hy.2
  have hsz := hI.sz hy.1 hy.2
  refine q_iload_n C 3 dL_isLine_0 rfl ?_
  refine q_iconst C 4 dL_isLine_1 ?_
  refine q_idiv C dL_isLine_2 ⟨by omega, by omega⟩ ⟨by decide, by decide⟩ ?_
  refine q_istore (lv' := [(4, .int (iI (y / 4))), (0, .ref (adr w 0)), (1, .ref (adr w a)), (2, .ref (adr w b)), (3, .int (iI y))]) C dL_isLine_3 (by decide) rfl ?_
  refine q_iload_n C 4 dL_isLine_5 rfl ?_
  refine q_iconst C 4 dL_isLine_6 ?_
  refine q_irem C dL_isLine_7 ⟨by omega, by omega⟩ ⟨by decide, by decide⟩ ?_
  refine q_istore (lv' := [(5, .int (iI (y % 4))), (4, .int (iI (y / 4))), (0, .ref (adr w 0)), (1, .ref (adr w a)), (2, .ref (adr w b)), (3, .int (iI y))]) C dL_isLine_8 (by decide) rfl ?_
  refine q_iconst C (-1) dL_isLine_10 ?_
  refine q_istore (lv' := [(6, .int (iI (-1))), (5, .int (iI (y % 4))), (4, .int (iI (y / 4))), (0, .ref (adr w 0)), (1, .ref (adr w a)), (2, .ref (adr w b)), (3, .int (iI y))]) C dL_isLine_11 (by decide) rfl ?_
  refine q_iconst C 1 dL_isLine_13 ?_
  refine q_istore (lv' := [(7, .int (iI 1)), (6, .int (iI (-1))), (5, .int (iI (y % 4))), (4, .int (iI (y / 4))), (0, .ref (adr w 0)), (1, .ref (adr w a)), (2, .ref (adr w b)), (3, .int (iI y))]) C dL_isLine_14 (by decide) rfl ?_
  refine q_iconst C 0 dL_isLine_16 ?_
  refine q_istore (lv' := [(8, .int (iI 0)), (7, .int (iI 1)), (6, .int (iI (-1))), (5, .int (iI (y % 4))), (4, .int (iI (y / 4))), (0, .ref (adr w 0)), (1, .ref (adr w a)), (2, .ref (adr w b)), (3, .int (iI y))]) C dL_isLine_17 (by decide) rfl ?_
  refine q_lv (lv' := [(0, .ref (adr w 0)), (1, .ref (adr w a)), (2, .ref (adr w b)), (3, .int (iI y)), (4, .int (iI (y / 4))), (5, .int (iI (y % 4))), (6, .int (iI (-1))), (7, .int (iI 1)), (8, .int (iI 0))]) [5, 6, 7, 8, 4, 3, 2, 1, 0] rfl ?_
  refine wf2 (P := fun (j : Int) (bw : Int) => Wq pg l ev _ s0 mi _ be me co _ w _ _ _ 19 [(0, .ref (adr w 0)), (1, .ref (adr w a)), (2, .ref (adr w b)), (3, .int (iI y)), (4, .int (iI (y / 4))), (5, .int (iI (y % 4))), (6, .int (iI bw)), (7, .int (iI 1)), (8, .int (iI j))] [] F) (I := fun (j : Int) (bw : Int) => 0 ≤ j ∧ j ≤ 16 ∧ (bor A.r y < j ∧ bw = bor A.r y ∨ j ≤ bor A.r y ∧ bw = -1)) (μ := fun (j : Int) (bw : Int) => (16 - j).toNat) ?_ 0 (-1) (⟨by omega, by omega, by omega⟩)
  intro j bw hI' ih19
  (try dsimp only at hI'); (try dsimp only at ih19); (try dsimp only)
  obtain ⟨hi0, hi1, hb9⟩ := hI'
  refine q_iload C 8 dL_isLine_19 rfl ?_
  refine q_bipush C 16 dL_isLine_21 (by decide) ?_
  refine q_icmp_ge C 49 dL_isLine_23 ⟨by omega, by omega⟩ ⟨by decide, by decide⟩ (by decide) (fun h23 => ?_) (fun h23 => ?_)
  · have hbe : bw = bor A.r y := by omega
    refine q_iconst C 1 dL_isLine_49 ?_
    refine q_istore (lv' := [(8, .int (iI 1)), (0, .ref (adr w 0)), (1, .ref (adr w a)), (2, .ref (adr w b)), (3, .int (iI y)), (4, .int (iI (y / 4))), (5, .int (iI (y % 4))), (6, .int (iI bw)), (7, .int (iI 1))]) C dL_isLine_50 (by decide) rfl ?_
    refine q_iconst C 0 dL_isLine_52 ?_
    refine q_istore (lv' := [(9, .int (iI 0)), (8, .int (iI 1)), (0, .ref (adr w 0)), (1, .ref (adr w a)), (2, .ref (adr w b)), (3, .int (iI y)), (4, .int (iI (y / 4))), (5, .int (iI (y % 4))), (6, .int (iI bw)), (7, .int (iI 1))]) C dL_isLine_53 (by decide) rfl ?_
    refine q_lv (lv' := [(0, .ref (adr w 0)), (1, .ref (adr w a)), (2, .ref (adr w b)), (3, .int (iI y)), (4, .int (iI (y / 4))), (5, .int (iI (y % 4))), (6, .int (iI bw)), (7, .int (iI 1)), (8, .int (iI 1)), (9, .int (iI 0))]) [2, 3, 4, 5, 6, 7, 8, 9, 1, 0] rfl ?_
    refine wf2 (P := fun (q : Int) (mv : Int) => Wq pg l ev _ s0 mi _ be me co _ w _ _ _ 55 [(0, .ref (adr w 0)), (1, .ref (adr w a)), (2, .ref (adr w b)), (3, .int (iI y)), (4, .int (iI (y / 4))), (5, .int (iI (y % 4))), (6, .int (iI bw)), (7, .int (iI mv)), (8, .int (iI 1)), (9, .int (iI q))] [] F) (I := fun (q : Int) (mv : Int) => 0 ≤ q ∧ q ≤ 6 ∧ MXI A.r y q mv) (μ := fun (q : Int) (mv : Int) => (6 - q).toNat) ?_ 0 1 (⟨by omega, by omega, MXI_0⟩)
    intro q mv hI' ih55
    (try dsimp only at hI'); (try dsimp only at ih55); (try dsimp only)
    obtain ⟨hi0, hi1, hM⟩ := hI'
    refine q_iload C 9 dL_isLine_55 rfl ?_
    refine q_bipush C 6 dL_isLine_57 (by decide) ?_
    refine q_icmp_ge C 152 dL_isLine_59 ⟨by omega, by omega⟩ ⟨by decide, by decide⟩ (by decide) (fun h59 => ?_) (fun h59 => ?_)
    · have hMx := MXI_end hM (by omega) hsz
      refine q_iload C 8 dL_isLine_152 rfl ?_
      refine q_if_eq C 230 dL_isLine_154 ⟨by decide, by decide⟩  (by decide) (fun h => absurd h (by decide)) (fun _ => ?_)
      refine q_aload_n C 0 dL_isLine_157 rfl ?_
      refine q_iload C 4 dL_isLine_158 rfl ?_
      refine q_iload C 5 dL_isLine_160 rfl ?_
      refine q_iconst C 0 dL_isLine_162 ?_
      refine q_cI (q_runV (As := [.int (iI (y / 4)), .int (iI (y % 4)), .int (iI 0)]) (rest := []) C ((k_X3_lineOf (F := F) l hA (d := y / 4) (y := y % 4) (k := 0) ⟨by omega, by omega⟩ ⟨by omega, by omega⟩ ⟨by decide, by decide⟩ (by unfold lineOfT; rw [if_neg (by omega), if_neg (by omega)])).post (fun z F' h => (⟨h.1.trans (by show lpr A.r (4 * (y / 4) + y % 4) 0 = _; rw [show 4 * (y / 4) + y % 4 = y by omega]), h.2⟩ : z = lpr A.r y 0 ∧ F = F'))) kd0 (by decide) rfl wd_313 wd_311 wd_312 wd_13 wd_310 nd_X3_lineOf rfl (by decide) ⟨Nat.zero_le _, Nat.zero_le _⟩ rfl (Nat.le_of_ble_eq_true rfl) dL_isLine_163) ?_
      rintro z F' ⟨rfl, rfl⟩
      refine q_aload_n C 1 dL_isLine_166 rfl ?_
      refine q_iload_n C 3 dL_isLine_167 rfl ?_
      refine q_cI (q_runS (As := [.ref (adr w a), .int (iI y)]) (rest := [.int (iI (lpr A.r y 0))]) C (k_L_many (F := F) (r := A.r) l hLa hW hI (y := y) ⟨by omega, by omega⟩) wd_350 wd_349 wd_12 wd_348 nd_L_many rfl (by decide) ⟨Nat.zero_le _, Nat.zero_le _⟩ rfl (Nat.le_of_ble_eq_true rfl) dL_isLine_168) ?_
      rintro z F' ⟨rfl, rfl⟩
      have qs168 := hI.sz (l := y) (by omega) (by omega)
      refine q_eqn C 230 dL_isLine_171 (by decide) (by omega) ?_
      refine q_aload_n C 0 dL_isLine_174 rfl ?_
      refine q_iload C 4 dL_isLine_175 rfl ?_
      refine q_iload C 5 dL_isLine_177 rfl ?_
      refine q_iconst C 1 dL_isLine_179 ?_
      refine q_cI (q_runV (As := [.int (iI (y / 4)), .int (iI (y % 4)), .int (iI 1)]) (rest := []) C ((k_X3_lineOf (F := F) l hA (d := y / 4) (y := y % 4) (k := 1) ⟨by omega, by omega⟩ ⟨by omega, by omega⟩ ⟨by decide, by decide⟩ (by unfold lineOfT; rw [if_neg (by omega), if_neg (by omega)])).post (fun z F' h => (⟨h.1.trans (by show lpr A.r (4 * (y / 4) + y % 4) 1 = _; rw [show 4 * (y / 4) + y % 4 = y by omega]), h.2⟩ : z = lpr A.r y 1 ∧ F = F'))) kd0 (by decide) rfl wd_313 wd_311 wd_312 wd_13 wd_310 nd_X3_lineOf rfl (by decide) ⟨Nat.zero_le _, Nat.zero_le _⟩ rfl (Nat.le_of_ble_eq_true rfl) dL_isLine_180) ?_
      rintro z F' ⟨rfl, rfl⟩
      refine q_aload_n C 1 dL_isLine_183 rfl ?_
      refine q_iload_n C 3 dL_isLine_184 rfl ?_
      refine q_cI (q_runS (As := [.ref (adr w a), .int (iI y)]) (rest := [.int (iI (lpr A.r y 1))]) C (k_L_beats (F := F) (r := A.r) l hLa hW hI (y := y) ⟨by omega, by omega⟩) wd_353 wd_352 wd_12 wd_351 nd_L_beats rfl (by decide) ⟨Nat.zero_le _, Nat.zero_le _⟩ rfl (Nat.le_of_ble_eq_true rfl) dL_isLine_185) ?_
      rintro z F' ⟨rfl, rfl⟩
      have qb185 := bo_bounds (f := wa A.r y) (n := A.r y) (hI.sz (l := y) (by omega) (by omega)).1 (fun p a b => (hI.wd (l := y) (by omega) (by omega) a b).1)
      have qs185 := hI.sz (l := y) (by omega) (by omega)
      refine q_eqn C 230 dL_isLine_188 (by decide) (by omega) ?_
      refine q_aload_n C 0 dL_isLine_191 rfl ?_
      refine q_iload C 4 dL_isLine_192 rfl ?_
      refine q_iload C 5 dL_isLine_194 rfl ?_
      refine q_iconst C 2 dL_isLine_196 ?_
      refine q_cI (q_runV (As := [.int (iI (y / 4)), .int (iI (y % 4)), .int (iI 2)]) (rest := []) C ((k_X3_lineOf (F := F) l hA (d := y / 4) (y := y % 4) (k := 2) ⟨by omega, by omega⟩ ⟨by omega, by omega⟩ ⟨by decide, by decide⟩ (by unfold lineOfT; rw [if_neg (by omega), if_neg (by omega)])).post (fun z F' h => (⟨h.1.trans (by show lpr A.r (4 * (y / 4) + y % 4) 2 = _; rw [show 4 * (y / 4) + y % 4 = y by omega]), h.2⟩ : z = lpr A.r y 2 ∧ F = F'))) kd0 (by decide) rfl wd_313 wd_311 wd_312 wd_13 wd_310 nd_X3_lineOf rfl (by decide) ⟨Nat.zero_le _, Nat.zero_le _⟩ rfl (Nat.le_of_ble_eq_true rfl) dL_isLine_197) ?_
      rintro z F' ⟨rfl, rfl⟩
      refine q_aload_n C 1 dL_isLine_200 rfl ?_
      refine q_iload_n C 3 dL_isLine_201 rfl ?_
      refine q_cI (q_runS (As := [.ref (adr w a), .int (iI y)]) (rest := [.int (iI (lpr A.r y 2))]) C (k_L_worth (F := F) (r := A.r) l hLa hW hI (y := y) ⟨by omega, by omega⟩) wd_356 wd_355 wd_12 wd_354 nd_L_worth rfl (by decide) ⟨Nat.zero_le _, Nat.zero_le _⟩ rfl (Nat.le_of_ble_eq_true rfl) dL_isLine_202) ?_
      rintro z F' ⟨rfl, rfl⟩
      have qv202 := lw_bounds hI (l := y) (by omega) (by omega)
      refine q_eqn C 230 dL_isLine_205 (by decide) (by omega) ?_
      refine q_aload_n C 0 dL_isLine_208 rfl ?_
      refine q_iload C 4 dL_isLine_209 rfl ?_
      refine q_iload C 5 dL_isLine_211 rfl ?_
      refine q_iconst C 3 dL_isLine_213 ?_
      refine q_cI (q_runV (As := [.int (iI (y / 4)), .int (iI (y % 4)), .int (iI 3)]) (rest := []) C ((k_X3_lineOf (F := F) l hA (d := y / 4) (y := y % 4) (k := 3) ⟨by omega, by omega⟩ ⟨by omega, by omega⟩ ⟨by decide, by decide⟩ (by unfold lineOfT; rw [if_neg (by omega), if_neg (by omega)])).post (fun z F' h => (⟨h.1.trans (by show lpr A.r (4 * (y / 4) + y % 4) 3 = _; rw [show 4 * (y / 4) + y % 4 = y by omega]), h.2⟩ : z = lpr A.r y 3 ∧ F = F'))) kd0 (by decide) rfl wd_313 wd_311 wd_312 wd_13 wd_310 nd_X3_lineOf rfl (by decide) ⟨Nat.zero_le _, Nat.zero_le _⟩ rfl (Nat.le_of_ble_eq_true rfl) dL_isLine_214) ?_
      rintro z F' ⟨rfl, rfl⟩
      refine q_aload_n C 1 dL_isLine_217 rfl ?_
      refine q_aload_n C 2 dL_isLine_218 rfl ?_
      refine q_iload_n C 3 dL_isLine_219 rfl ?_
      refine q_cI (q_runS (As := [.ref (adr w a), .ref (adr w b), .int (iI y)]) (rest := [.int (iI (lpr A.r y 3))]) C (k_L_ending (F := F) (r := A.r) l hLa hW hI hLb hL (y := y) ⟨by omega, by omega⟩) wd_359 wd_358 wd_12 wd_357 nd_L_ending rfl (by decide) ⟨Nat.zero_le _, Nat.zero_le _⟩ rfl (Nat.le_of_ble_eq_true rfl) dL_isLine_220) ?_
      rintro z F' ⟨rfl, rfl⟩
      have qe220 := le_range (l := y) hI (by omega) (by omega)
      refine q_eqn C 230 dL_isLine_223 (by decide) (by omega) ?_
      refine q_iconst C 1 dL_isLine_226 ?_
      refine q_goto C 231 dL_isLine_227 (by decide) ?_
      refine q_istore (lv' := [(8, .int (iI 1)), (0, .ref (adr w 0)), (1, .ref (adr w a)), (2, .ref (adr w b)), (3, .int (iI y)), (4, .int (iI (y / 4))), (5, .int (iI (y % 4))), (6, .int (iI bw)), (7, .int (iI mv)), (9, .int (iI q))]) C dL_isLine_231 (by decide) rfl ?_
      refine q_iload C 0 dL_isLine_233 rfl ?_
      refine q_if_eq C 311 dL_isLine_235 ⟨by decide, by decide⟩  (by decide) (fun h => absurd h (by decide)) (fun _ => ?_)
      refine q_aload_n C 1 dL_isLine_238 rfl ?_
      refine q_iload C 5 dL_isLine_239 rfl ?_
      refine q_iload C 6 dL_isLine_241 rfl ?_
      refine q_iconst C 4 dL_isLine_243 ?_
      refine q_cI (q_runV (As := [.int (iI (y / 4)), .int (iI (y % 4)), .int (iI 4)]) (rest := []) C ((k_X3_lineOf (F := F) l hA (d := y / 4) (y := y % 4) (k := 4) ⟨by omega, by omega⟩ ⟨by omega, by omega⟩ ⟨by decide, by decide⟩ (by unfold lineOfT; rw [if_neg (by omega), if_neg (by omega)])).post (fun z F' h => (⟨h.1.trans (by show lpr A.r (4 * (y / 4) + y % 4) 4 = _; rw [show 4 * (y / 4) + y % 4 = y by omega]), h.2⟩ : z = lpr A.r y 4 ∧ F = F'))) kd0 (by decide) rfl wd_313 wd_311 wd_312 wd_13 wd_310 nd_X3_lineOf rfl (by decide) ⟨Nat.zero_le _, Nat.zero_le _⟩ rfl (Nat.le_of_ble_eq_true rfl) dL_isLine_244) ?_
      rintro z F' ⟨rfl, rfl⟩
      refine q_aload_n C 3 dL_isLine_247 rfl ?_
      refine q_iload_n C 4 dL_isLine_248 rfl ?_
      refine q_iald9 C hLb ⟨by omega, by omega⟩ dL_isLine_249 ?_
      rw [show F b y = A.r (112 + y) - 1 from hL y (by omega) (by omega)]
      refine q_cI (q_runS (As := [.int (iI (A.r (112 + y) - 1))]) (rest := [.int (iI (lpr A.r y 4))]) C (k_L_told (F := F) l (y := A.r (112 + y) - 1) ⟨by omega, by omega⟩) wd_365 wd_364 wd_12 wd_363 nd_L_told rfl (by decide) ⟨Nat.zero_le _, Nat.zero_le _⟩ rfl (Nat.le_of_ble_eq_true rfl) dL_isLine_250) ?_
      rintro z F' ⟨rfl, rfl⟩
      have qt250 := lc_range (A.r (112 + y) - 1)
      refine q_eqn C 311 dL_isLine_253 (by decide) (by omega) ?_
      refine q_aload_n C 1 dL_isLine_256 rfl ?_
      refine q_iload C 5 dL_isLine_257 rfl ?_
      refine q_iload C 6 dL_isLine_259 rfl ?_
      refine q_iconst C 5 dL_isLine_261 ?_
      refine q_cI (q_runV (As := [.int (iI (y / 4)), .int (iI (y % 4)), .int (iI 5)]) (rest := []) C ((k_X3_lineOf (F := F) l hA (d := y / 4) (y := y % 4) (k := 5) ⟨by omega, by omega⟩ ⟨by omega, by omega⟩ ⟨by decide, by decide⟩ (by unfold lineOfT; rw [if_neg (by omega), if_neg (by omega)])).post (fun z F' h => (⟨h.1.trans (by show lpr A.r (4 * (y / 4) + y % 4) 5 = _; rw [show 4 * (y / 4) + y % 4 = y by omega]), h.2⟩ : z = lpr A.r y 5 ∧ F = F'))) kd0 (by decide) rfl wd_313 wd_311 wd_312 wd_13 wd_310 nd_X3_lineOf rfl (by decide) ⟨Nat.zero_le _, Nat.zero_le _⟩ rfl (Nat.le_of_ble_eq_true rfl) dL_isLine_262) ?_
      rintro z F' ⟨rfl, rfl⟩
      refine q_iload C 7 dL_isLine_265 rfl ?_
      refine q_cI (q_runS (As := [.int (iI bw)]) (rest := [.int (iI (lpr A.r y 5))]) C (k_L_told (F := F) l (y := bw) ⟨by omega, by omega⟩) wd_365 wd_364 wd_12 wd_363 nd_L_told rfl (by decide) ⟨Nat.zero_le _, Nat.zero_le _⟩ rfl (Nat.le_of_ble_eq_true rfl) dL_isLine_267) ?_
      rintro z F' ⟨rfl, rfl⟩
      have qt267 := lc_range bw
      refine q_eqn C 311 dL_isLine_270 (by decide) (by rw [hlp.2.2.2.2.2.1, hbe]) ?_
      refine q_aload_n C 1 dL_isLine_273 rfl ?_
      refine q_iload C 5 dL_isLine_274 rfl ?_
      refine q_iload C 6 dL_isLine_276 rfl ?_
      refine q_bipush C 6 dL_isLine_278 (by decide) ?_
      refine q_cI (q_runV (As := [.int (iI (y / 4)), .int (iI (y % 4)), .int (iI 6)]) (rest := []) C ((k_X3_lineOf (F := F) l hA (d := y / 4) (y := y % 4) (k := 6) ⟨by omega, by omega⟩ ⟨by omega, by omega⟩ ⟨by decide, by decide⟩ (by unfold lineOfT; rw [if_neg (by omega), if_neg (by omega)])).post (fun z F' h => (⟨h.1.trans (by show lpr A.r (4 * (y / 4) + y % 4) 6 = _; rw [show 4 * (y / 4) + y % 4 = y by omega]), h.2⟩ : z = lpr A.r y 6 ∧ F = F'))) kd0 (by decide) rfl wd_313 wd_311 wd_312 wd_13 wd_310 nd_X3_lineOf rfl (by decide) ⟨Nat.zero_le _, Nat.zero_le _⟩ rfl (Nat.le_of_ble_eq_true rfl) dL_isLine_280) ?_
      rintro z F' ⟨rfl, rfl⟩
      refine q_aload_n C 2 dL_isLine_283 rfl ?_
      refine q_aload_n C 3 dL_isLine_284 rfl ?_
      refine q_iload_n C 4 dL_isLine_285 rfl ?_
      refine q_cI (q_runS (As := [.ref (adr w a), .ref (adr w b), .int (iI y)]) (rest := [.int (iI (lpr A.r y 6))]) C (k_L_rhymes (F := F) (r := A.r) l hLa hW hI hLb hL (y := y) ⟨by omega, by omega⟩) wd_368 wd_367 wd_12 wd_366 nd_L_rhymes rfl (by decide) ⟨Nat.zero_le _, Nat.zero_le _⟩ rfl (Nat.le_of_ble_eq_true rfl) dL_isLine_286) ?_
      rintro z F' ⟨rfl, rfl⟩
      have qr286 := rh_range A.r y
      refine q_eqn C 311 dL_isLine_289 (by decide) (by omega) ?_
      refine q_aload_n C 1 dL_isLine_292 rfl ?_
      refine q_iload C 5 dL_isLine_293 rfl ?_
      refine q_iload C 6 dL_isLine_295 rfl ?_
      refine q_bipush C 7 dL_isLine_297 (by decide) ?_
      refine q_cI (q_runV (As := [.int (iI (y / 4)), .int (iI (y % 4)), .int (iI 7)]) (rest := []) C ((k_X3_lineOf (F := F) l hA (d := y / 4) (y := y % 4) (k := 7) ⟨by omega, by omega⟩ ⟨by omega, by omega⟩ ⟨by decide, by decide⟩ (by unfold lineOfT; rw [if_neg (by omega), if_neg (by omega)])).post (fun z F' h => (⟨h.1.trans (by show lpr A.r (4 * (y / 4) + y % 4) 7 = _; rw [show 4 * (y / 4) + y % 4 = y by omega]), h.2⟩ : z = lpr A.r y 7 ∧ F = F'))) kd0 (by decide) rfl wd_313 wd_311 wd_312 wd_13 wd_310 nd_X3_lineOf rfl (by decide) ⟨Nat.zero_le _, Nat.zero_le _⟩ rfl (Nat.le_of_ble_eq_true rfl) dL_isLine_299) ?_
      rintro z F' ⟨rfl, rfl⟩
      refine q_iload C 8 dL_isLine_302 rfl ?_
      refine q_eqn C 311 dL_isLine_304 (by decide) (by omega) ?_
      refine q_iconst C 1 dL_isLine_307 ?_
      refine q_goto C 312 dL_isLine_308 (by decide) ?_
      refine q_zret C dL_isLine_312 (by decide) ?_
      exact ⟨rfl, rfl⟩
    · have hc0 := W0_c A.r y q
      have hc1 := W0_c A.r y (q + 1)
      refine q_aload_n C 1 dL_isLine_62 rfl ?_
      refine q_iload_n C 3 dL_isLine_63 rfl ?_
      refine q_iload C 9 dL_isLine_64 rfl ?_
      refine q_cI (q_runS (As := [.ref (adr w a), .int (iI y), .int (iI q)]) (rest := []) C (k_L_wordAt (F := F) (r := A.r) l hLa hW hI (y := y) (p := q) ⟨by omega, by omega⟩ ⟨by omega, by omega⟩) wd_291 wd_290 wd_12 wd_289 nd_L_wordAt rfl (by decide) ⟨Nat.zero_le _, Nat.zero_le _⟩ rfl (Nat.le_of_ble_eq_true rfl) dL_isLine_66) ?_
      rintro z F' ⟨rfl, rfl⟩
      have qw66 := W0_range (l := y) (p := q) hI (by omega) (by omega)
      refine q_istore (lv' := [(10, .int (iI (W0 A.r y q))), (0, .ref (adr w 0)), (1, .ref (adr w a)), (2, .ref (adr w b)), (3, .int (iI y)), (4, .int (iI (y / 4))), (5, .int (iI (y % 4))), (6, .int (iI bw)), (7, .int (iI mv)), (8, .int (iI 1)), (9, .int (iI q))]) C dL_isLine_69 (by decide) rfl ?_
      refine q_aload_n C 2 dL_isLine_71 rfl ?_
      refine q_iload_n C 4 dL_isLine_72 rfl ?_
      refine q_iload C 10 dL_isLine_73 rfl ?_
      refine q_iconst C 1 dL_isLine_75 ?_
      refine q_iadd C dL_isLine_76 ?_
      refine q_cI (q_runS (As := [.ref (adr w a), .int (iI y), .int (iI (q + 1))]) (rest := []) C (k_L_wordAt (F := F) (r := A.r) l hLa hW hI (y := y) (p := q + 1) ⟨by omega, by omega⟩ ⟨by omega, by omega⟩) wd_291 wd_290 wd_12 wd_289 nd_L_wordAt rfl (by decide) ⟨Nat.zero_le _, Nat.zero_le _⟩ rfl (Nat.le_of_ble_eq_true rfl) dL_isLine_77) ?_
      rintro z F' ⟨rfl, rfl⟩
      have qw77 := W0_range (l := y) (p := q + 1) hI (by omega) (by omega)
      refine q_istore (lv' := [(11, .int (iI (W0 A.r y (q + 1)))), (10, .int (iI (W0 A.r y q))), (0, .ref (adr w 0)), (1, .ref (adr w a)), (2, .ref (adr w b)), (3, .int (iI y)), (4, .int (iI (y / 4))), (5, .int (iI (y % 4))), (6, .int (iI bw)), (7, .int (iI mv)), (8, .int (iI 1)), (9, .int (iI q))]) C dL_isLine_80 (by decide) rfl ?_
      refine q_iload C 1 dL_isLine_82 rfl ?_
      refine q_if_lt C 115 dL_isLine_84 ⟨by omega, by omega⟩  (by decide) (fun h84 => ?_) (fun h84 => ?_)
      · refine q_iload C 9 dL_isLine_115 rfl ?_
        refine q_istore (lv' := [(7, .int (iI mv)), (11, .int (iI (W0 A.r y (q + 1)))), (10, .int (iI (W0 A.r y q))), (0, .ref (adr w 0)), (1, .ref (adr w a)), (2, .ref (adr w b)), (3, .int (iI y)), (4, .int (iI (y / 4))), (5, .int (iI (y % 4))), (6, .int (iI bw)), (8, .int (iI 1)), (9, .int (iI q))]) C dL_isLine_117 (by decide) rfl ?_
        refine q_iload C 10 dL_isLine_119 rfl ?_
        refine q_if_eq C 143 dL_isLine_121 ⟨by decide, by decide⟩  (by decide) (fun h => absurd h (by decide)) (fun _ => ?_)
        refine q_aload_n C 3 dL_isLine_124 rfl ?_
        refine q_iload C 7 dL_isLine_125 rfl ?_
        refine q_iload C 8 dL_isLine_127 rfl ?_
        refine q_iload C 11 dL_isLine_129 rfl ?_
        refine q_cI (q_runV (As := [.int (iI (y / 4)), .int (iI (y % 4)), .int (iI q)]) (rest := []) C ((k_X3_at (F := F) l hA (d := y / 4) (y := y % 4) (p := q) ⟨by omega, by omega⟩ ⟨by omega, by omega⟩ ⟨by omega, by omega⟩ (by unfold atT; rw [if_neg (by omega)])).post (fun z F' h => (⟨h.1.trans (by show W0 A.r (4 * (y / 4) + y % 4) q = _; rw [show 4 * (y / 4) + y % 4 = y by omega]), h.2⟩ : z = W0 A.r y q ∧ F = F'))) kd0 (by decide) rfl wd_298 wd_296 wd_297 wd_13 wd_295 nd_X3_at rfl (by decide) ⟨Nat.zero_le _, Nat.zero_le _⟩ rfl (Nat.le_of_ble_eq_true rfl) dL_isLine_131) ?_
        rintro z F' ⟨rfl, rfl⟩
        refine q_iload C 2 dL_isLine_134 rfl ?_
        refine q_eqn C 143 dL_isLine_136 (by decide) (by omega) ?_
        refine q_iconst C 1 dL_isLine_139 ?_
        refine q_goto C 144 dL_isLine_140 (by decide) ?_
        refine q_istore (lv' := [(8, .int (iI 1)), (7, .int (iI mv)), (11, .int (iI (W0 A.r y (q + 1)))), (10, .int (iI (W0 A.r y q))), (0, .ref (adr w 0)), (1, .ref (adr w a)), (2, .ref (adr w b)), (3, .int (iI y)), (4, .int (iI (y / 4))), (5, .int (iI (y % 4))), (6, .int (iI bw)), (9, .int (iI q))]) C dL_isLine_144 (by decide) rfl ?_
        refine q_iinc (lv' := [(9, .int (iI (q + 1))), (8, .int (iI 1)), (7, .int (iI mv)), (11, .int (iI (W0 A.r y (q + 1)))), (10, .int (iI (W0 A.r y q))), (0, .ref (adr w 0)), (1, .ref (adr w a)), (2, .ref (adr w b)), (3, .int (iI y)), (4, .int (iI (y / 4))), (5, .int (iI (y % 4))), (6, .int (iI bw))]) C 11 dL_isLine_146 rfl (by decide) rfl ?_
        refine q_goto C 55 dL_isLine_149 (by decide) ?_
        refine q_lv (lv' := [(0, .ref (adr w 0)), (1, .ref (adr w a)), (2, .ref (adr w b)), (3, .int (iI y)), (4, .int (iI (y / 4))), (5, .int (iI (y % 4))), (6, .int (iI bw)), (7, .int (iI mv)), (8, .int (iI 1)), (9, .int (iI (q + 1)))]) [5, 6, 7, 8, 9, 10, 11, 2, 1, 0] rfl ?_
        exact ih55 (q + 1) mv (⟨by omega, by omega, by first | exact MXI_t hi0 (by omega) hc0 hc1 (by omega) (by omega) | exact MXI_f hM hc0 hc1 (by omega) hI hy⟩) (by omega)
      · refine q_iload C 0 dL_isLine_87 rfl ?_
        refine q_if_lt C 115 dL_isLine_89 ⟨by omega, by omega⟩  (by decide) (fun h89 => ?_) (fun h89 => ?_)
        · refine q_iload C 9 dL_isLine_115 rfl ?_
          refine q_istore (lv' := [(7, .int (iI mv)), (11, .int (iI (W0 A.r y (q + 1)))), (10, .int (iI (W0 A.r y q))), (0, .ref (adr w 0)), (1, .ref (adr w a)), (2, .ref (adr w b)), (3, .int (iI y)), (4, .int (iI (y / 4))), (5, .int (iI (y % 4))), (6, .int (iI bw)), (8, .int (iI 1)), (9, .int (iI q))]) C dL_isLine_117 (by decide) rfl ?_
          refine q_iload C 10 dL_isLine_119 rfl ?_
          refine q_if_eq C 143 dL_isLine_121 ⟨by decide, by decide⟩  (by decide) (fun h => absurd h (by decide)) (fun _ => ?_)
          refine q_aload_n C 3 dL_isLine_124 rfl ?_
          refine q_iload C 7 dL_isLine_125 rfl ?_
          refine q_iload C 8 dL_isLine_127 rfl ?_
          refine q_iload C 11 dL_isLine_129 rfl ?_
          refine q_cI (q_runV (As := [.int (iI (y / 4)), .int (iI (y % 4)), .int (iI q)]) (rest := []) C ((k_X3_at (F := F) l hA (d := y / 4) (y := y % 4) (p := q) ⟨by omega, by omega⟩ ⟨by omega, by omega⟩ ⟨by omega, by omega⟩ (by unfold atT; rw [if_neg (by omega)])).post (fun z F' h => (⟨h.1.trans (by show W0 A.r (4 * (y / 4) + y % 4) q = _; rw [show 4 * (y / 4) + y % 4 = y by omega]), h.2⟩ : z = W0 A.r y q ∧ F = F'))) kd0 (by decide) rfl wd_298 wd_296 wd_297 wd_13 wd_295 nd_X3_at rfl (by decide) ⟨Nat.zero_le _, Nat.zero_le _⟩ rfl (Nat.le_of_ble_eq_true rfl) dL_isLine_131) ?_
          rintro z F' ⟨rfl, rfl⟩
          refine q_iload C 2 dL_isLine_134 rfl ?_
          refine q_eqn C 143 dL_isLine_136 (by decide) (by omega) ?_
          refine q_iconst C 1 dL_isLine_139 ?_
          refine q_goto C 144 dL_isLine_140 (by decide) ?_
          refine q_istore (lv' := [(8, .int (iI 1)), (7, .int (iI mv)), (11, .int (iI (W0 A.r y (q + 1)))), (10, .int (iI (W0 A.r y q))), (0, .ref (adr w 0)), (1, .ref (adr w a)), (2, .ref (adr w b)), (3, .int (iI y)), (4, .int (iI (y / 4))), (5, .int (iI (y % 4))), (6, .int (iI bw)), (9, .int (iI q))]) C dL_isLine_144 (by decide) rfl ?_
          refine q_iinc (lv' := [(9, .int (iI (q + 1))), (8, .int (iI 1)), (7, .int (iI mv)), (11, .int (iI (W0 A.r y (q + 1)))), (10, .int (iI (W0 A.r y q))), (0, .ref (adr w 0)), (1, .ref (adr w a)), (2, .ref (adr w b)), (3, .int (iI y)), (4, .int (iI (y / 4))), (5, .int (iI (y % 4))), (6, .int (iI bw))]) C 11 dL_isLine_146 rfl (by decide) rfl ?_
          refine q_goto C 55 dL_isLine_149 (by decide) ?_
          refine q_lv (lv' := [(0, .ref (adr w 0)), (1, .ref (adr w a)), (2, .ref (adr w b)), (3, .int (iI y)), (4, .int (iI (y / 4))), (5, .int (iI (y % 4))), (6, .int (iI bw)), (7, .int (iI mv)), (8, .int (iI 1)), (9, .int (iI (q + 1)))]) [5, 6, 7, 8, 9, 10, 11, 2, 1, 0] rfl ?_
          exact ih55 (q + 1) mv (⟨by omega, by omega, by first | exact MXI_t hi0 (by omega) hc0 hc1 (by omega) (by omega) | exact MXI_f hM hc0 hc1 (by omega) hI hy⟩) (by omega)
        · refine q_iload C 1 dL_isLine_92 rfl ?_
          refine q_iconst C 4 dL_isLine_94 ?_
          refine q_irem C dL_isLine_95 ⟨by omega, by omega⟩ ⟨by decide, by decide⟩ ?_
          refine q_iload C 0 dL_isLine_96 rfl ?_
          refine q_iconst C 4 dL_isLine_98 ?_
          refine q_irem C dL_isLine_99 ⟨by omega, by omega⟩ ⟨by decide, by decide⟩ ?_
          refine q_icmp_ne C 115 dL_isLine_100 ⟨by omega, by omega⟩ ⟨by omega, by omega⟩ (by decide) (fun h100 => ?_) (fun h100 => ?_)
          · refine q_iload C 9 dL_isLine_115 rfl ?_
            refine q_istore (lv' := [(7, .int (iI mv)), (11, .int (iI (W0 A.r y (q + 1)))), (10, .int (iI (W0 A.r y q))), (0, .ref (adr w 0)), (1, .ref (adr w a)), (2, .ref (adr w b)), (3, .int (iI y)), (4, .int (iI (y / 4))), (5, .int (iI (y % 4))), (6, .int (iI bw)), (8, .int (iI 1)), (9, .int (iI q))]) C dL_isLine_117 (by decide) rfl ?_
            refine q_iload C 10 dL_isLine_119 rfl ?_
            refine q_if_eq C 143 dL_isLine_121 ⟨by decide, by decide⟩  (by decide) (fun h => absurd h (by decide)) (fun _ => ?_)
            refine q_aload_n C 3 dL_isLine_124 rfl ?_
            refine q_iload C 7 dL_isLine_125 rfl ?_
            refine q_iload C 8 dL_isLine_127 rfl ?_
            refine q_iload C 11 dL_isLine_129 rfl ?_
            refine q_cI (q_runV (As := [.int (iI (y / 4)), .int (iI (y % 4)), .int (iI q)]) (rest := []) C ((k_X3_at (F := F) l hA (d := y / 4) (y := y % 4) (p := q) ⟨by omega, by omega⟩ ⟨by omega, by omega⟩ ⟨by omega, by omega⟩ (by unfold atT; rw [if_neg (by omega)])).post (fun z F' h => (⟨h.1.trans (by show W0 A.r (4 * (y / 4) + y % 4) q = _; rw [show 4 * (y / 4) + y % 4 = y by omega]), h.2⟩ : z = W0 A.r y q ∧ F = F'))) kd0 (by decide) rfl wd_298 wd_296 wd_297 wd_13 wd_295 nd_X3_at rfl (by decide) ⟨Nat.zero_le _, Nat.zero_le _⟩ rfl (Nat.le_of_ble_eq_true rfl) dL_isLine_131) ?_
            rintro z F' ⟨rfl, rfl⟩
            refine q_iload C 2 dL_isLine_134 rfl ?_
            refine q_eqn C 143 dL_isLine_136 (by decide) (by omega) ?_
            refine q_iconst C 1 dL_isLine_139 ?_
            refine q_goto C 144 dL_isLine_140 (by decide) ?_
            refine q_istore (lv' := [(8, .int (iI 1)), (7, .int (iI mv)), (11, .int (iI (W0 A.r y (q + 1)))), (10, .int (iI (W0 A.r y q))), (0, .ref (adr w 0)), (1, .ref (adr w a)), (2, .ref (adr w b)), (3, .int (iI y)), (4, .int (iI (y / 4))), (5, .int (iI (y % 4))), (6, .int (iI bw)), (9, .int (iI q))]) C dL_isLine_144 (by decide) rfl ?_
            refine q_iinc (lv' := [(9, .int (iI (q + 1))), (8, .int (iI 1)), (7, .int (iI mv)), (11, .int (iI (W0 A.r y (q + 1)))), (10, .int (iI (W0 A.r y q))), (0, .ref (adr w 0)), (1, .ref (adr w a)), (2, .ref (adr w b)), (3, .int (iI y)), (4, .int (iI (y / 4))), (5, .int (iI (y % 4))), (6, .int (iI bw))]) C 11 dL_isLine_146 rfl (by decide) rfl ?_
            refine q_goto C 55 dL_isLine_149 (by decide) ?_
            refine q_lv (lv' := [(0, .ref (adr w 0)), (1, .ref (adr w a)), (2, .ref (adr w b)), (3, .int (iI y)), (4, .int (iI (y / 4))), (5, .int (iI (y % 4))), (6, .int (iI bw)), (7, .int (iI mv)), (8, .int (iI 1)), (9, .int (iI (q + 1)))]) [5, 6, 7, 8, 9, 10, 11, 2, 1, 0] rfl ?_
            exact ih55 (q + 1) mv (⟨by omega, by omega, by first | exact MXI_t hi0 (by omega) hc0 hc1 (by omega) (by omega) | exact MXI_f hM hc0 hc1 (by omega) hI hy⟩) (by omega)
          · refine q_iload C 1 dL_isLine_103 rfl ?_
            refine q_iconst C 4 dL_isLine_105 ?_
            refine q_irem C dL_isLine_106 ⟨by omega, by omega⟩ ⟨by decide, by decide⟩ ?_
            refine q_iconst C 2 dL_isLine_107 ?_
            refine q_icmp_eq C 115 dL_isLine_108 ⟨by omega, by omega⟩ ⟨by decide, by decide⟩ (by decide) (fun h108 => ?_) (fun h108 => ?_)
            · refine q_iload C 9 dL_isLine_115 rfl ?_
              refine q_istore (lv' := [(7, .int (iI mv)), (11, .int (iI (W0 A.r y (q + 1)))), (10, .int (iI (W0 A.r y q))), (0, .ref (adr w 0)), (1, .ref (adr w a)), (2, .ref (adr w b)), (3, .int (iI y)), (4, .int (iI (y / 4))), (5, .int (iI (y % 4))), (6, .int (iI bw)), (8, .int (iI 1)), (9, .int (iI q))]) C dL_isLine_117 (by decide) rfl ?_
              refine q_iload C 10 dL_isLine_119 rfl ?_
              refine q_if_eq C 143 dL_isLine_121 ⟨by decide, by decide⟩  (by decide) (fun h => absurd h (by decide)) (fun _ => ?_)
              refine q_aload_n C 3 dL_isLine_124 rfl ?_
              refine q_iload C 7 dL_isLine_125 rfl ?_
              refine q_iload C 8 dL_isLine_127 rfl ?_
              refine q_iload C 11 dL_isLine_129 rfl ?_
              refine q_cI (q_runV (As := [.int (iI (y / 4)), .int (iI (y % 4)), .int (iI q)]) (rest := []) C ((k_X3_at (F := F) l hA (d := y / 4) (y := y % 4) (p := q) ⟨by omega, by omega⟩ ⟨by omega, by omega⟩ ⟨by omega, by omega⟩ (by unfold atT; rw [if_neg (by omega)])).post (fun z F' h => (⟨h.1.trans (by show W0 A.r (4 * (y / 4) + y % 4) q = _; rw [show 4 * (y / 4) + y % 4 = y by omega]), h.2⟩ : z = W0 A.r y q ∧ F = F'))) kd0 (by decide) rfl wd_298 wd_296 wd_297 wd_13 wd_295 nd_X3_at rfl (by decide) ⟨Nat.zero_le _, Nat.zero_le _⟩ rfl (Nat.le_of_ble_eq_true rfl) dL_isLine_131) ?_
              rintro z F' ⟨rfl, rfl⟩
              refine q_iload C 2 dL_isLine_134 rfl ?_
              refine q_eqn C 143 dL_isLine_136 (by decide) (by omega) ?_
              refine q_iconst C 1 dL_isLine_139 ?_
              refine q_goto C 144 dL_isLine_140 (by decide) ?_
              refine q_istore (lv' := [(8, .int (iI 1)), (7, .int (iI mv)), (11, .int (iI (W0 A.r y (q + 1)))), (10, .int (iI (W0 A.r y q))), (0, .ref (adr w 0)), (1, .ref (adr w a)), (2, .ref (adr w b)), (3, .int (iI y)), (4, .int (iI (y / 4))), (5, .int (iI (y % 4))), (6, .int (iI bw)), (9, .int (iI q))]) C dL_isLine_144 (by decide) rfl ?_
              refine q_iinc (lv' := [(9, .int (iI (q + 1))), (8, .int (iI 1)), (7, .int (iI mv)), (11, .int (iI (W0 A.r y (q + 1)))), (10, .int (iI (W0 A.r y q))), (0, .ref (adr w 0)), (1, .ref (adr w a)), (2, .ref (adr w b)), (3, .int (iI y)), (4, .int (iI (y / 4))), (5, .int (iI (y % 4))), (6, .int (iI bw))]) C 11 dL_isLine_146 rfl (by decide) rfl ?_
              refine q_goto C 55 dL_isLine_149 (by decide) ?_
              refine q_lv (lv' := [(0, .ref (adr w 0)), (1, .ref (adr w a)), (2, .ref (adr w b)), (3, .int (iI y)), (4, .int (iI (y / 4))), (5, .int (iI (y % 4))), (6, .int (iI bw)), (7, .int (iI mv)), (8, .int (iI 1)), (9, .int (iI (q + 1)))]) [5, 6, 7, 8, 9, 10, 11, 2, 1, 0] rfl ?_
              exact ih55 (q + 1) mv (⟨by omega, by omega, by first | exact MXI_t hi0 (by omega) hc0 hc1 (by omega) (by omega) | exact MXI_f hM hc0 hc1 (by omega) hI hy⟩) (by omega)
            · refine q_iconst C 0 dL_isLine_111 ?_
              refine q_goto C 117 dL_isLine_112 (by decide) ?_
              refine q_istore (lv' := [(7, .int (iI 0)), (11, .int (iI (W0 A.r y (q + 1)))), (10, .int (iI (W0 A.r y q))), (0, .ref (adr w 0)), (1, .ref (adr w a)), (2, .ref (adr w b)), (3, .int (iI y)), (4, .int (iI (y / 4))), (5, .int (iI (y % 4))), (6, .int (iI bw)), (8, .int (iI 1)), (9, .int (iI q))]) C dL_isLine_117 (by decide) rfl ?_
              refine q_iload C 10 dL_isLine_119 rfl ?_
              refine q_if_eq C 143 dL_isLine_121 ⟨by decide, by decide⟩  (by decide) (fun h => absurd h (by decide)) (fun _ => ?_)
              refine q_aload_n C 3 dL_isLine_124 rfl ?_
              refine q_iload C 7 dL_isLine_125 rfl ?_
              refine q_iload C 8 dL_isLine_127 rfl ?_
              refine q_iload C 11 dL_isLine_129 rfl ?_
              refine q_cI (q_runV (As := [.int (iI (y / 4)), .int (iI (y % 4)), .int (iI q)]) (rest := []) C ((k_X3_at (F := F) l hA (d := y / 4) (y := y % 4) (p := q) ⟨by omega, by omega⟩ ⟨by omega, by omega⟩ ⟨by omega, by omega⟩ (by unfold atT; rw [if_neg (by omega)])).post (fun z F' h => (⟨h.1.trans (by show W0 A.r (4 * (y / 4) + y % 4) q = _; rw [show 4 * (y / 4) + y % 4 = y by omega]), h.2⟩ : z = W0 A.r y q ∧ F = F'))) kd0 (by decide) rfl wd_298 wd_296 wd_297 wd_13 wd_295 nd_X3_at rfl (by decide) ⟨Nat.zero_le _, Nat.zero_le _⟩ rfl (Nat.le_of_ble_eq_true rfl) dL_isLine_131) ?_
              rintro z F' ⟨rfl, rfl⟩
              refine q_iload C 2 dL_isLine_134 rfl ?_
              refine q_eqn C 143 dL_isLine_136 (by decide) (by omega) ?_
              refine q_iconst C 1 dL_isLine_139 ?_
              refine q_goto C 144 dL_isLine_140 (by decide) ?_
              refine q_istore (lv' := [(8, .int (iI 1)), (7, .int (iI 0)), (11, .int (iI (W0 A.r y (q + 1)))), (10, .int (iI (W0 A.r y q))), (0, .ref (adr w 0)), (1, .ref (adr w a)), (2, .ref (adr w b)), (3, .int (iI y)), (4, .int (iI (y / 4))), (5, .int (iI (y % 4))), (6, .int (iI bw)), (9, .int (iI q))]) C dL_isLine_144 (by decide) rfl ?_
              refine q_iinc (lv' := [(9, .int (iI (q + 1))), (8, .int (iI 1)), (7, .int (iI 0)), (11, .int (iI (W0 A.r y (q + 1)))), (10, .int (iI (W0 A.r y q))), (0, .ref (adr w 0)), (1, .ref (adr w a)), (2, .ref (adr w b)), (3, .int (iI y)), (4, .int (iI (y / 4))), (5, .int (iI (y % 4))), (6, .int (iI bw))]) C 11 dL_isLine_146 rfl (by decide) rfl ?_
              refine q_goto C 55 dL_isLine_149 (by decide) ?_
              refine q_lv (lv' := [(0, .ref (adr w 0)), (1, .ref (adr w a)), (2, .ref (adr w b)), (3, .int (iI y)), (4, .int (iI (y / 4))), (5, .int (iI (y % 4))), (6, .int (iI bw)), (7, .int (iI 0)), (8, .int (iI 1)), (9, .int (iI (q + 1)))]) [5, 6, 7, 8, 9, 10, 11, 2, 1, 0] rfl ?_
              exact ih55 (q + 1) 0 (⟨by omega, by omega, by first | exact MXI_t hi0 (by omega) hc0 hc1 (by omega) (by omega) | exact MXI_f hM hc0 hc1 (by omega) hI hy⟩) (by omega)
  · have hbi := bor_i hI hy hi0 (j := j) (by omega)
    have hlj := hI.ld (l := j) hi0 (by omega)
    refine q_aload_n C 2 dL_isLine_26 rfl ?_
    refine q_iload C 8 dL_isLine_27 rfl ?_
    refine q_iald9 C hLb ⟨by omega, by omega⟩ dL_isLine_29 ?_
    rw [show F b j = A.r (112 + j) - 1 from hL j (by omega) (by omega)]
    refine q_iload_n C 3 dL_isLine_30 rfl ?_
    refine q_icmp_ne C 39 dL_isLine_31 ⟨by omega, by omega⟩ ⟨by omega, by omega⟩ (by decide) (fun h31 => ?_) (fun h31 => ?_)
    · refine q_iload C 6 dL_isLine_39 rfl ?_
      refine q_istore (lv' := [(6, .int (iI bw)), (0, .ref (adr w 0)), (1, .ref (adr w a)), (2, .ref (adr w b)), (3, .int (iI y)), (4, .int (iI (y / 4))), (5, .int (iI (y % 4))), (7, .int (iI 1)), (8, .int (iI j))]) C dL_isLine_41 (by decide) rfl ?_
      refine q_iinc (lv' := [(8, .int (iI (j + 1))), (6, .int (iI bw)), (0, .ref (adr w 0)), (1, .ref (adr w a)), (2, .ref (adr w b)), (3, .int (iI y)), (4, .int (iI (y / 4))), (5, .int (iI (y % 4))), (7, .int (iI 1))]) C 8 dL_isLine_43 rfl (by decide) rfl ?_
      refine q_goto C 19 dL_isLine_46 (by decide) ?_
      refine q_lv (lv' := [(0, .ref (adr w 0)), (1, .ref (adr w a)), (2, .ref (adr w b)), (3, .int (iI y)), (4, .int (iI (y / 4))), (5, .int (iI (y % 4))), (6, .int (iI bw)), (7, .int (iI 1)), (8, .int (iI (j + 1)))]) [2, 3, 4, 5, 6, 7, 1, 8, 0] rfl ?_
      exact ih19 (j + 1) bw (⟨by omega, by omega, by omega⟩) (by omega)
    · refine q_iload C 8 dL_isLine_34 rfl ?_
      refine q_goto C 41 dL_isLine_36 (by decide) ?_
      refine q_istore (lv' := [(6, .int (iI j)), (0, .ref (adr w 0)), (1, .ref (adr w a)), (2, .ref (adr w b)), (3, .int (iI y)), (4, .int (iI (y / 4))), (5, .int (iI (y % 4))), (7, .int (iI 1)), (8, .int (iI j))]) C dL_isLine_41 (by decide) rfl ?_
      refine q_iinc (lv' := [(8, .int (iI (j + 1))), (6, .int (iI j)), (0, .ref (adr w 0)), (1, .ref (adr w a)), (2, .ref (adr w b)), (3, .int (iI y)), (4, .int (iI (y / 4))), (5, .int (iI (y % 4))), (7, .int (iI 1))]) C 8 dL_isLine_43 rfl (by decide) rfl ?_
      refine q_goto C 19 dL_isLine_46 (by decide) ?_
      refine q_lv (lv' := [(0, .ref (adr w 0)), (1, .ref (adr w a)), (2, .ref (adr w b)), (3, .int (iI y)), (4, .int (iI (y / 4))), (5, .int (iI (y % 4))), (6, .int (iI j)), (7, .int (iI 1)), (8, .int (iI (j + 1)))]) [2, 3, 4, 5, 6, 7, 1, 8, 0] rfl ?_
      exact ih19 (j + 1) j (⟨by omega, by omega, by omega⟩) (by omega)

set_option maxRecDepth 100000 in
set_option maxHeartbeats 4000000 in
theorem k_L_areDoors (l : Launch) {w : WP} {F : FF} {a b nn t : Nat} {A : AS} (hLa : LwP w a 40) (hLb : LwP w b 16) (hLn : LwP w nn 14) (hLt : LwP w t 40) (hTA : TA F a b nn t A.r) (hA : CI F A)  : Con l yL_areDoors cL_areDoors 12 (some .boolean) 7 w [.ref (adr w 0), .ref (adr w a), .ref (adr w b), .ref (adr w nn)] F (QI w (fun z F' => z = 1 ∧ F = F')) := by
  refine Con.mk (lv := [(0, .ref (adr w 0)), (1, .ref (adr w a)), (2, .ref (adr w b)), (3, .ref (adr w nn))]) (by decide) (Nat.le_of_ble_eq_true rfl) rfl ?_
  intro pg ev s0 mi be me co C hz
  obtain ⟨hW, hL, hN, hT, hI⟩ := id hTA
  have hcv := cntv_c A
  have hbg := bg_range hI
  refine q_iconst C 0 dL_areDoors_0 ?_
  refine q_istore (lv' := [(4, .int (iI 0)), (0, .ref (adr w 0)), (1, .ref (adr w a)), (2, .ref (adr w b)), (3, .ref (adr w nn))]) C dL_areDoors_1 (by decide) rfl ?_
  refine q_iconst C 0 dL_areDoors_3 ?_
  refine q_istore (lv' := [(5, .int (iI 0)), (4, .int (iI 0)), (0, .ref (adr w 0)), (1, .ref (adr w a)), (2, .ref (adr w b)), (3, .ref (adr w nn))]) C dL_areDoors_4 (by decide) rfl ?_
  refine q_iconst C 0 dL_areDoors_6 ?_
  refine q_istore (lv' := [(6, .int (iI 0)), (5, .int (iI 0)), (4, .int (iI 0)), (0, .ref (adr w 0)), (1, .ref (adr w a)), (2, .ref (adr w b)), (3, .ref (adr w nn))]) C dL_areDoors_7 (by decide) rfl ?_
  refine q_iconst C 0 dL_areDoors_9 ?_
  refine q_istore (lv' := [(7, .int (iI 0)), (6, .int (iI 0)), (5, .int (iI 0)), (4, .int (iI 0)), (0, .ref (adr w 0)), (1, .ref (adr w a)), (2, .ref (adr w b)), (3, .ref (adr w nn))]) C dL_areDoors_10 (by decide) rfl ?_
  refine q_iconst C 1 dL_areDoors_12 ?_
  refine q_istore (lv' := [(8, .int (iI 1)), (7, .int (iI 0)), (6, .int (iI 0)), (5, .int (iI 0)), (4, .int (iI 0)), (0, .ref (adr w 0)), (1, .ref (adr w a)), (2, .ref (adr w b)), (3, .ref (adr w nn))]) C dL_areDoors_13 (by decide) rfl ?_
  refine q_iconst C 0 dL_areDoors_15 ?_
  refine q_istore (lv' := [(9, .int (iI 0)), (8, .int (iI 1)), (7, .int (iI 0)), (6, .int (iI 0)), (5, .int (iI 0)), (4, .int (iI 0)), (0, .ref (adr w 0)), (1, .ref (adr w a)), (2, .ref (adr w b)), (3, .ref (adr w nn))]) C dL_areDoors_16 (by decide) rfl ?_
  refine q_lv (lv' := [(0, .ref (adr w 0)), (1, .ref (adr w a)), (2, .ref (adr w b)), (3, .ref (adr w nn)), (4, .int (iI 0)), (5, .int (iI 0)), (6, .int (iI 0)), (7, .int (iI 0)), (8, .int (iI 1)), (9, .int (iI 0))]) [6, 7, 8, 9, 5, 4, 3, 2, 1, 0] rfl ?_
  refine wf2 (P := fun (i : Int) (m : Int) => Wq pg l ev _ s0 mi _ be me co _ w _ _ _ 18 [(0, .ref (adr w 0)), (1, .ref (adr w a)), (2, .ref (adr w b)), (3, .ref (adr w nn)), (4, .int (iI 0)), (5, .int (iI 0)), (6, .int (iI 0)), (7, .int (iI m)), (8, .int (iI 1)), (9, .int (iI i))] [] F) (I := fun (i : Int) (m : Int) => 0 ≤ i ∧ i ≤ 16 ∧ m = sm (lnT A.r) i) (μ := fun (i : Int) (m : Int) => (16 - i).toNat) ?_ 0 0 (⟨by omega, by omega, rfl⟩)
  intro i m hI' ih18
  (try dsimp only at hI'); (try dsimp only at ih18); (try dsimp only)
  obtain ⟨hi0, hi1, hm⟩ := hI'
  refine q_iload C 9 dL_areDoors_18 rfl ?_
  refine q_bipush C 16 dL_areDoors_20 (by decide) ?_
  refine q_icmp_ge C 63 dL_areDoors_22 ⟨by omega, by omega⟩ ⟨by decide, by decide⟩ (by decide) (fun h22 => ?_) (fun h22 => ?_)
  · refine q_iconst C 0 dL_areDoors_63 ?_
    refine q_istore (lv' := [(9, .int (iI 0)), (0, .ref (adr w 0)), (1, .ref (adr w a)), (2, .ref (adr w b)), (3, .ref (adr w nn)), (4, .int (iI 0)), (5, .int (iI 0)), (6, .int (iI 0)), (7, .int (iI m)), (8, .int (iI 1))]) C dL_areDoors_64 (by decide) rfl ?_
    refine q_lv (lv' := [(0, .ref (adr w 0)), (1, .ref (adr w a)), (2, .ref (adr w b)), (3, .ref (adr w nn)), (4, .int (iI 0)), (5, .int (iI 0)), (6, .int (iI 0)), (7, .int (iI m)), (8, .int (iI 1)), (9, .int (iI 0))]) [1, 2, 3, 4, 5, 6, 7, 8, 9, 0] rfl ?_
    refine wf4 (P := fun (d : Int) (al : Int) (sh : Int) (sv : Int) => Wq pg l ev _ s0 mi _ be me co _ w _ _ _ 66 [(0, .ref (adr w 0)), (1, .ref (adr w a)), (2, .ref (adr w b)), (3, .ref (adr w nn)), (4, .int (iI al)), (5, .int (iI sh)), (6, .int (iI sv)), (7, .int (iI m)), (8, .int (iI 1)), (9, .int (iI d))] [] F) (I := fun (d : Int) (al : Int) (sh : Int) (sv : Int) => 0 ≤ d ∧ d ≤ 4 ∧ al = sm (dw A.r) d ∧ sh = sm (dwo A.r) d ∧ sv = sm (fun j => A.r (132 + j)) d) (μ := fun (d : Int) (al : Int) (sh : Int) (sv : Int) => (4 - d).toNat) ?_ 0 0 0 0 (⟨by omega, by omega, rfl, rfl, rfl⟩)
    intro d al sh sv hI' ih66
    (try dsimp only at hI'); (try dsimp only at ih66); (try dsimp only)
    obtain ⟨hd0, hd1, hal, hsh, hsv⟩ := hI'
    refine q_iload C 9 dL_areDoors_66 rfl ?_
    refine q_iconst C 4 dL_areDoors_68 ?_
    refine q_icmp_ge C 244 dL_areDoors_69 ⟨by omega, by omega⟩ ⟨by decide, by decide⟩ (by decide) (fun h69 => ?_) (fun h69 => ?_)
    · have hd4 : d = 4 := by omega
      have hsh4 : sh = 40 - bg A.r := by rw [hsh, hd4]; exact sh_bg A.r
      have hsv4 : sv = rbs A.r := by rw [hsv, hd4]; exact sv_rbs A.r
      have hal4 : al = aw A.r := by rw [hal, hd4]; rfl
      have hm4 : m = lnt A.r := by rw [hm, show i = 16 by omega]; exact lnT_all A.r
      obtain ⟨⟨hn0, hn1, hn2, hn3, hn4, hn5⟩, -⟩ := id hN
      refine q_iload C 8 dL_areDoors_244 rfl ?_
      refine q_if_eq C 344 dL_areDoors_246 ⟨by decide, by decide⟩  (by decide) (fun h => absurd h (by decide)) (fun _ => ?_)
      refine q_aload_n C 0 dL_areDoors_249 rfl ?_
      refine q_iconst C 0 dL_areDoors_250 ?_
      refine q_cI (q_runV (As := [.int (iI 0)]) (rest := []) C ((k_X3_count (F := F) l hA (k := 0) ⟨by decide, by decide⟩ (by unfold countT; rw [if_neg (by omega)])).post (fun z F' h => (⟨h.1.trans (rfl), h.2⟩ : z = cntv A 0 ∧ F = F'))) kd0 (by decide) rfl wd_400 wd_398 wd_399 wd_13 wd_397 nd_X3_count rfl (by decide) ⟨Nat.zero_le _, Nat.zero_le _⟩ rfl (Nat.le_of_ble_eq_true rfl) dL_areDoors_251) ?_
      rintro z F' ⟨rfl, rfl⟩
      refine q_bipush C 40 dL_areDoors_254 (by decide) ?_
      refine q_iload C 5 dL_areDoors_256 rfl ?_
      refine q_isub C dL_areDoors_258 ?_
      refine q_eqn C 344 dL_areDoors_259 (by decide) (by omega) ?_
      refine q_aload_n C 0 dL_areDoors_262 rfl ?_
      refine q_iconst C 1 dL_areDoors_263 ?_
      refine q_cI (q_runV (As := [.int (iI 1)]) (rest := []) C ((k_X3_count (F := F) l hA (k := 1) ⟨by decide, by decide⟩ (by unfold countT; rw [if_neg (by omega)])).post (fun z F' h => (⟨h.1.trans (rfl), h.2⟩ : z = cntv A 1 ∧ F = F'))) kd0 (by decide) rfl wd_400 wd_398 wd_399 wd_13 wd_397 nd_X3_count rfl (by decide) ⟨Nat.zero_le _, Nat.zero_le _⟩ rfl (Nat.le_of_ble_eq_true rfl) dL_areDoors_264) ?_
      rintro z F' ⟨rfl, rfl⟩
      refine q_bipush C 40 dL_areDoors_267 (by decide) ?_
      refine q_iload C 5 dL_areDoors_269 rfl ?_
      refine q_isub C dL_areDoors_271 ?_
      refine q_eqn C 344 dL_areDoors_272 (by decide) (by omega) ?_
      refine q_aload_n C 0 dL_areDoors_275 rfl ?_
      refine q_iconst C 2 dL_areDoors_276 ?_
      refine q_cI (q_runV (As := [.int (iI 2)]) (rest := []) C ((k_X3_count (F := F) l hA (k := 2) ⟨by decide, by decide⟩ (by unfold countT; rw [if_neg (by omega)])).post (fun z F' h => (⟨h.1.trans (rfl), h.2⟩ : z = cntv A 2 ∧ F = F'))) kd0 (by decide) rfl wd_400 wd_398 wd_399 wd_13 wd_397 nd_X3_count rfl (by decide) ⟨Nat.zero_le _, Nat.zero_le _⟩ rfl (Nat.le_of_ble_eq_true rfl) dL_areDoors_277) ?_
      rintro z F' ⟨rfl, rfl⟩
      refine q_aload_n C 3 dL_areDoors_280 rfl ?_
      refine q_iconst C 3 dL_areDoors_281 ?_
      refine q_iald9 C hLn ⟨by omega, by omega⟩ dL_areDoors_282 ?_
      refine q_eqn C 344 dL_areDoors_283 (by decide) (by omega) ?_
      refine q_aload_n C 0 dL_areDoors_286 rfl ?_
      refine q_iconst C 3 dL_areDoors_287 ?_
      refine q_cI (q_runV (As := [.int (iI 3)]) (rest := []) C ((k_X3_count (F := F) l hA (k := 3) ⟨by decide, by decide⟩ (by unfold countT; rw [if_neg (by omega)])).post (fun z F' h => (⟨h.1.trans (rfl), h.2⟩ : z = cntv A 3 ∧ F = F'))) kd0 (by decide) rfl wd_400 wd_398 wd_399 wd_13 wd_397 nd_X3_count rfl (by decide) ⟨Nat.zero_le _, Nat.zero_le _⟩ rfl (Nat.le_of_ble_eq_true rfl) dL_areDoors_288) ?_
      rintro z F' ⟨rfl, rfl⟩
      refine q_iload C 6 dL_areDoors_291 rfl ?_
      refine q_eqn C 344 dL_areDoors_293 (by decide) (by omega) ?_
      refine q_aload_n C 0 dL_areDoors_296 rfl ?_
      refine q_iconst C 4 dL_areDoors_297 ?_
      refine q_cI (q_runV (As := [.int (iI 4)]) (rest := []) C ((k_X3_count (F := F) l hA (k := 4) ⟨by decide, by decide⟩ (by unfold countT; rw [if_neg (by omega)])).post (fun z F' h => (⟨h.1.trans (rfl), h.2⟩ : z = cntv A 4 ∧ F = F'))) kd0 (by decide) rfl wd_400 wd_398 wd_399 wd_13 wd_397 nd_X3_count rfl (by decide) ⟨Nat.zero_le _, Nat.zero_le _⟩ rfl (Nat.le_of_ble_eq_true rfl) dL_areDoors_298) ?_
      rintro z F' ⟨rfl, rfl⟩
      refine q_aload_n C 3 dL_areDoors_301 rfl ?_
      refine q_iconst C 4 dL_areDoors_302 ?_
      refine q_iald9 C hLn ⟨by omega, by omega⟩ dL_areDoors_303 ?_
      refine q_eqn C 344 dL_areDoors_304 (by decide) (by omega) ?_
      refine q_aload_n C 0 dL_areDoors_307 rfl ?_
      refine q_iconst C 5 dL_areDoors_308 ?_
      refine q_cI (q_runV (As := [.int (iI 5)]) (rest := []) C ((k_X3_count (F := F) l hA (k := 5) ⟨by decide, by decide⟩ (by unfold countT; rw [if_neg (by omega)])).post (fun z F' h => (⟨h.1.trans (rfl), h.2⟩ : z = cntv A 5 ∧ F = F'))) kd0 (by decide) rfl wd_400 wd_398 wd_399 wd_13 wd_397 nd_X3_count rfl (by decide) ⟨Nat.zero_le _, Nat.zero_le _⟩ rfl (Nat.le_of_ble_eq_true rfl) dL_areDoors_309) ?_
      rintro z F' ⟨rfl, rfl⟩
      refine q_aload_n C 3 dL_areDoors_312 rfl ?_
      refine q_iconst C 5 dL_areDoors_313 ?_
      refine q_iald9 C hLn ⟨by omega, by omega⟩ dL_areDoors_314 ?_
      refine q_eqn C 344 dL_areDoors_315 (by decide) (by omega) ?_
      refine q_aload_n C 0 dL_areDoors_318 rfl ?_
      refine q_bipush C 6 dL_areDoors_319 (by decide) ?_
      refine q_cI (q_runV (As := [.int (iI 6)]) (rest := []) C ((k_X3_count (F := F) l hA (k := 6) ⟨by decide, by decide⟩ (by unfold countT; rw [if_neg (by omega)])).post (fun z F' h => (⟨h.1.trans (rfl), h.2⟩ : z = cntv A 6 ∧ F = F'))) kd0 (by decide) rfl wd_400 wd_398 wd_399 wd_13 wd_397 nd_X3_count rfl (by decide) ⟨Nat.zero_le _, Nat.zero_le _⟩ rfl (Nat.le_of_ble_eq_true rfl) dL_areDoors_321) ?_
      rintro z F' ⟨rfl, rfl⟩
      refine q_iload C 7 dL_areDoors_324 rfl ?_
      refine q_eqn C 344 dL_areDoors_326 (by decide) (by omega) ?_
      refine q_aload_n C 0 dL_areDoors_329 rfl ?_
      refine q_bipush C 7 dL_areDoors_330 (by decide) ?_
      refine q_cI (q_runV (As := [.int (iI 7)]) (rest := []) C ((k_X3_count (F := F) l hA (k := 7) ⟨by decide, by decide⟩ (by unfold countT; rw [if_neg (by omega)])).post (fun z F' h => (⟨h.1.trans (rfl), h.2⟩ : z = cntv A 7 ∧ F = F'))) kd0 (by decide) rfl wd_400 wd_398 wd_399 wd_13 wd_397 nd_X3_count rfl (by decide) ⟨Nat.zero_le _, Nat.zero_le _⟩ rfl (Nat.le_of_ble_eq_true rfl) dL_areDoors_332) ?_
      rintro z F' ⟨rfl, rfl⟩
      refine q_iload C 4 dL_areDoors_335 rfl ?_
      refine q_eqn C 344 dL_areDoors_337 (by decide) (by omega) ?_
      refine q_iconst C 1 dL_areDoors_340 ?_
      refine q_goto C 345 dL_areDoors_341 (by decide) ?_
      refine q_istore (lv' := [(8, .int (iI 1)), (0, .ref (adr w 0)), (1, .ref (adr w a)), (2, .ref (adr w b)), (3, .ref (adr w nn)), (4, .int (iI al)), (5, .int (iI sh)), (6, .int (iI sv)), (7, .int (iI m)), (9, .int (iI d))]) C dL_areDoors_345 (by decide) rfl ?_
      refine q_iload C 0 dL_areDoors_347 rfl ?_
      refine q_if_eq C 404 dL_areDoors_349 ⟨by decide, by decide⟩  (by decide) (fun h => absurd h (by decide)) (fun _ => ?_)
      refine q_aload_n C 1 dL_areDoors_352 rfl ?_
      refine q_iconst C 0 dL_areDoors_353 ?_
      refine q_cI (q_runV (As := [.int (iI 0)]) (rest := []) C ((k_X3_setting (F := F) l hA (k := 0) ⟨by decide, by decide⟩ (by unfold settingT; rw [if_neg (by omega)])).post (fun z F' h => (⟨h.1.trans (rfl), h.2⟩ : z = A.r 176 ∧ F = F'))) kd0 (by decide) rfl wd_425 wd_423 wd_424 wd_13 wd_422 nd_X3_setting rfl (by decide) ⟨Nat.zero_le _, Nat.zero_le _⟩ rfl (Nat.le_of_ble_eq_true rfl) dL_areDoors_354) ?_
      rintro z F' ⟨rfl, rfl⟩
      refine q_aload_n C 4 dL_areDoors_357 rfl ?_
      refine q_iconst C 0 dL_areDoors_358 ?_
      refine q_iald9 C hLn ⟨by omega, by omega⟩ dL_areDoors_359 ?_
      refine q_eqn C 404 dL_areDoors_360 (by decide) (by omega) ?_
      refine q_aload_n C 1 dL_areDoors_363 rfl ?_
      refine q_iconst C 1 dL_areDoors_364 ?_
      refine q_cI (q_runV (As := [.int (iI 1)]) (rest := []) C ((k_X3_setting (F := F) l hA (k := 1) ⟨by decide, by decide⟩ (by unfold settingT; rw [if_neg (by omega)])).post (fun z F' h => (⟨h.1.trans (rfl), h.2⟩ : z = A.r 177 ∧ F = F'))) kd0 (by decide) rfl wd_425 wd_423 wd_424 wd_13 wd_422 nd_X3_setting rfl (by decide) ⟨Nat.zero_le _, Nat.zero_le _⟩ rfl (Nat.le_of_ble_eq_true rfl) dL_areDoors_365) ?_
      rintro z F' ⟨rfl, rfl⟩
      refine q_aload_n C 4 dL_areDoors_368 rfl ?_
      refine q_iconst C 1 dL_areDoors_369 ?_
      refine q_iald9 C hLn ⟨by omega, by omega⟩ dL_areDoors_370 ?_
      refine q_eqn C 404 dL_areDoors_371 (by decide) (by omega) ?_
      refine q_aload_n C 1 dL_areDoors_374 rfl ?_
      refine q_iconst C 2 dL_areDoors_375 ?_
      refine q_cI (q_runV (As := [.int (iI 2)]) (rest := []) C ((k_X3_setting (F := F) l hA (k := 2) ⟨by decide, by decide⟩ (by unfold settingT; rw [if_neg (by omega)])).post (fun z F' h => (⟨h.1.trans (rfl), h.2⟩ : z = A.r 178 ∧ F = F'))) kd0 (by decide) rfl wd_425 wd_423 wd_424 wd_13 wd_422 nd_X3_setting rfl (by decide) ⟨Nat.zero_le _, Nat.zero_le _⟩ rfl (Nat.le_of_ble_eq_true rfl) dL_areDoors_376) ?_
      rintro z F' ⟨rfl, rfl⟩
      refine q_aload_n C 4 dL_areDoors_379 rfl ?_
      refine q_iconst C 2 dL_areDoors_380 ?_
      refine q_iald9 C hLn ⟨by omega, by omega⟩ dL_areDoors_381 ?_
      refine q_eqn C 404 dL_areDoors_382 (by decide) (by omega) ?_
      refine q_aload_n C 1 dL_areDoors_385 rfl ?_
      refine q_cD (q_runV (As := []) (rest := []) C (k_X3_shownShare (F := F) l hA) kd0 (by decide) rfl wd_437 wd_435 wd_436 wd_13 wd_434 nd_X3_shownShare rfl (by decide) ⟨Nat.zero_le _, Nat.zero_le _⟩ rfl (Nat.le_of_ble_eq_true rfl) dL_areDoors_386) ?_
      rintro z F' ⟨rfl, rfl⟩
      refine q_iload C 6 dL_areDoors_389 rfl ?_
      refine q_i2d C dL_areDoors_391 ?_
      refine q_ldc2d C wd_443 dL_areDoors_392 ?_
      refine q_ddiv C (sh_n9 (x := sh) (by omega) (by omega)) dL_areDoors_395 ?_
      refine q_dcmp C 0 (sh_cmp (by omega) (by omega)) dL_areDoors_396 ?_
      refine q_if_ne C 404 dL_areDoors_397 ⟨by decide, by decide⟩  (by decide) (fun h => absurd h (by decide)) (fun _ => ?_)
      refine q_iconst C 1 dL_areDoors_400 ?_
      refine q_goto C 405 dL_areDoors_401 (by decide) ?_
      refine q_zret C dL_areDoors_405 (by decide) ?_
      exact ⟨rfl, rfl⟩
    · refine q_iload C 8 dL_areDoors_72 rfl ?_
      refine q_if_eq C 244 dL_areDoors_74 ⟨by decide, by decide⟩  (by decide) (fun h => absurd h (by decide)) (fun _ => ?_)
      have hdn := hN.2 d hd0 (by omega)
      have hdp := dpr_c A.r d
      refine q_iconst C 0 dL_areDoors_77 ?_
      refine q_istore (lv' := [(10, .int (iI 0)), (0, .ref (adr w 0)), (1, .ref (adr w a)), (2, .ref (adr w b)), (3, .ref (adr w nn)), (4, .int (iI al)), (5, .int (iI sh)), (6, .int (iI sv)), (7, .int (iI m)), (8, .int (iI 1)), (9, .int (iI d))]) C dL_areDoors_78 (by decide) rfl ?_
      refine q_iconst C 4 dL_areDoors_80 ?_
      refine q_iload C 10 dL_areDoors_81 rfl ?_
      refine q_imul C dL_areDoors_83 ?_
      refine q_istore (lv' := [(11, .int (iI (4 * d))), (10, .int (iI 0)), (0, .ref (adr w 0)), (1, .ref (adr w a)), (2, .ref (adr w b)), (3, .ref (adr w nn)), (4, .int (iI al)), (5, .int (iI sh)), (6, .int (iI sv)), (7, .int (iI m)), (8, .int (iI 1)), (9, .int (iI d))]) C dL_areDoors_84 (by decide) rfl ?_
      refine q_lv (lv' := [(0, .ref (adr w 0)), (1, .ref (adr w a)), (2, .ref (adr w b)), (3, .ref (adr w nn)), (4, .int (iI al)), (5, .int (iI sh)), (6, .int (iI sv)), (7, .int (iI m)), (8, .int (iI 1)), (9, .int (iI d)), (10, .int (iI 0)), (11, .int (iI (4 * d)))]) [2, 3, 4, 5, 6, 7, 8, 9, 10, 11, 1, 0] rfl ?_
      refine wf2 (P := fun (i : Int) (pr : Int) => Wq pg l ev _ s0 mi _ be me co _ w _ _ _ 86 [(0, .ref (adr w 0)), (1, .ref (adr w a)), (2, .ref (adr w b)), (3, .ref (adr w nn)), (4, .int (iI al)), (5, .int (iI sh)), (6, .int (iI sv)), (7, .int (iI m)), (8, .int (iI 1)), (9, .int (iI d)), (10, .int (iI pr)), (11, .int (iI i))] [] F) (I := fun (i : Int) (pr : Int) => 4 * d ≤ i ∧ i ≤ 4 * d + 4 ∧ pr = sm (rT A.r d) (i - 4 * d)) (μ := fun (i : Int) (pr : Int) => (4 * d + 4 - i).toNat) ?_ (4 * d) 0 (⟨by omega, by omega, by rw [Int.sub_self]; rfl⟩)
      intro i pr hI' ih86
      (try dsimp only at hI'); (try dsimp only at ih86); (try dsimp only)
      obtain ⟨hj0, hj1, hpr⟩ := hI'
      refine q_iload C 11 dL_areDoors_86 rfl ?_
      refine q_iconst C 4 dL_areDoors_88 ?_
      refine q_iload C 9 dL_areDoors_89 rfl ?_
      refine q_imul C dL_areDoors_91 ?_
      refine q_iconst C 4 dL_areDoors_92 ?_
      refine q_iadd C dL_areDoors_93 ?_
      refine q_icmp_ge C 115 dL_areDoors_94 ⟨by omega, by omega⟩ ⟨by omega, by omega⟩ (by decide) (fun h94 => ?_) (fun h94 => ?_)
      · have hp2 : pr = 2 * prs A.r d := by rw [hpr, show i - 4 * d = 4 by omega]; exact rT_all ⟨hd0, by omega⟩
        have hpq := prs_range A.r d
        refine q_iload C 4 dL_areDoors_115 rfl ?_
        refine q_aload_n C 1 dL_areDoors_117 rfl ?_
        refine q_aload_n C 2 dL_areDoors_118 rfl ?_
        refine q_iload C 9 dL_areDoors_119 rfl ?_
        refine q_cI (q_runS (As := [.ref (adr w a), .ref (adr w b), .int (iI d)]) (rest := [.int (iI al)]) C (k_L_doorWorth (F := F) (r := A.r) l hLa hW hI hLb hL (d := d) ⟨by omega, by omega⟩) wd_371 wd_370 wd_12 wd_369 nd_L_doorWorth rfl (by decide) ⟨Nat.zero_le _, Nat.zero_le _⟩ rfl (Nat.le_of_ble_eq_true rfl) dL_areDoors_121) ?_
        rintro z F' ⟨rfl, rfl⟩
        have qd121 := dw_range (d := d) hI (by omega) (by omega)
        refine q_iadd C dL_areDoors_124 ?_
        refine q_istore (lv' := [(4, .int (iI (al + (dw A.r d)))), (0, .ref (adr w 0)), (1, .ref (adr w a)), (2, .ref (adr w b)), (3, .ref (adr w nn)), (5, .int (iI sh)), (6, .int (iI sv)), (7, .int (iI m)), (8, .int (iI 1)), (9, .int (iI d)), (10, .int (iI pr)), (11, .int (iI i))]) C dL_areDoors_125 (by decide) rfl ?_
        refine q_iload C 5 dL_areDoors_127 rfl ?_
        refine q_aload_n C 2 dL_areDoors_129 rfl ?_
        refine q_iload C 9 dL_areDoors_130 rfl ?_
        refine q_cI (q_runS (As := [.ref (adr w a), .int (iI d)]) (rest := [.int (iI sh)]) C (k_L_doorWords (F := F) (r := A.r) l hLa hW hI (d := d) ⟨by omega, by omega⟩) wd_374 wd_373 wd_12 wd_372 nd_L_doorWords rfl (by decide) ⟨Nat.zero_le _, Nat.zero_le _⟩ rfl (Nat.le_of_ble_eq_true rfl) dL_areDoors_132) ?_
        rintro z F' ⟨rfl, rfl⟩
        have qo132 := dwo_range (d := d) hI (by omega) (by omega)
        refine q_iadd C dL_areDoors_135 ?_
        refine q_istore (lv' := [(5, .int (iI (sh + (dwo A.r d)))), (4, .int (iI (al + (dw A.r d)))), (0, .ref (adr w 0)), (1, .ref (adr w a)), (2, .ref (adr w b)), (3, .ref (adr w nn)), (6, .int (iI sv)), (7, .int (iI m)), (8, .int (iI 1)), (9, .int (iI d)), (10, .int (iI pr)), (11, .int (iI i))]) C dL_areDoors_136 (by decide) rfl ?_
        refine q_iload C 6 dL_areDoors_138 rfl ?_
        refine q_aload_n C 5 dL_areDoors_140 rfl ?_
        refine q_bipush C 10 dL_areDoors_141 (by decide) ?_
        refine q_iload C 9 dL_areDoors_143 rfl ?_
        refine q_iadd C dL_areDoors_145 ?_
        refine q_iald9 C hLn ⟨by omega, by omega⟩ dL_areDoors_146 ?_
        refine q_iadd C dL_areDoors_147 ?_
        refine q_istore (lv' := [(6, .int (iI (sv + (F nn (10 + d))))), (5, .int (iI (sh + (dwo A.r d)))), (4, .int (iI (al + (dw A.r d)))), (0, .ref (adr w 0)), (1, .ref (adr w a)), (2, .ref (adr w b)), (3, .ref (adr w nn)), (7, .int (iI m)), (8, .int (iI 1)), (9, .int (iI d)), (10, .int (iI pr)), (11, .int (iI i))]) C dL_areDoors_148 (by decide) rfl ?_
        refine q_aload_n C 3 dL_areDoors_150 rfl ?_
        refine q_iload C 9 dL_areDoors_151 rfl ?_
        refine q_iconst C 0 dL_areDoors_153 ?_
        refine q_cI (q_runV (As := [.int (iI d), .int (iI 0)]) (rest := []) C ((k_X3_doorOf (F := F) l hA (d := d) (k := 0) ⟨by omega, by omega⟩ ⟨by decide, by decide⟩ (by unfold doorOfT; rw [if_neg (by omega), if_neg (by omega)])).post (fun z F' h => (⟨h.1.trans (rfl), h.2⟩ : z = dpr A.r d 0 ∧ F = F'))) kd0 (by decide) rfl wd_378 wd_376 wd_377 wd_13 wd_375 nd_X3_doorOf rfl (by decide) ⟨Nat.zero_le _, Nat.zero_le _⟩ rfl (Nat.le_of_ble_eq_true rfl) dL_areDoors_154) ?_
        rintro z F' ⟨rfl, rfl⟩
        refine q_aload_n C 4 dL_areDoors_157 rfl ?_
        refine q_aload_n C 5 dL_areDoors_158 rfl ?_
        refine q_iload C 9 dL_areDoors_159 rfl ?_
        refine q_cI (q_runS (As := [.ref (adr w a), .ref (adr w b), .int (iI d)]) (rest := [.int (iI (dpr A.r d 0))]) C (k_L_doorWorth (F := F) (r := A.r) l hLa hW hI hLb hL (d := d) ⟨by omega, by omega⟩) wd_371 wd_370 wd_12 wd_369 nd_L_doorWorth rfl (by decide) ⟨Nat.zero_le _, Nat.zero_le _⟩ rfl (Nat.le_of_ble_eq_true rfl) dL_areDoors_161) ?_
        rintro z F' ⟨rfl, rfl⟩
        have qd161 := dw_range (d := d) hI (by omega) (by omega)
        refine q_eqn C 235 dL_areDoors_164 (by decide) (by omega) ?_
        refine q_aload_n C 3 dL_areDoors_167 rfl ?_
        refine q_iload C 9 dL_areDoors_168 rfl ?_
        refine q_iconst C 1 dL_areDoors_170 ?_
        refine q_cI (q_runV (As := [.int (iI d), .int (iI 1)]) (rest := []) C ((k_X3_doorOf (F := F) l hA (d := d) (k := 1) ⟨by omega, by omega⟩ ⟨by decide, by decide⟩ (by unfold doorOfT; rw [if_neg (by omega), if_neg (by omega)])).post (fun z F' h => (⟨h.1.trans (rfl), h.2⟩ : z = dpr A.r d 1 ∧ F = F'))) kd0 (by decide) rfl wd_378 wd_376 wd_377 wd_13 wd_375 nd_X3_doorOf rfl (by decide) ⟨Nat.zero_le _, Nat.zero_le _⟩ rfl (Nat.le_of_ble_eq_true rfl) dL_areDoors_171) ?_
        rintro z F' ⟨rfl, rfl⟩
        refine q_aload_n C 4 dL_areDoors_174 rfl ?_
        refine q_iload C 9 dL_areDoors_175 rfl ?_
        refine q_cI (q_runS (As := [.ref (adr w a), .int (iI d)]) (rest := [.int (iI (dpr A.r d 1))]) C (k_L_doorWords (F := F) (r := A.r) l hLa hW hI (d := d) ⟨by omega, by omega⟩) wd_374 wd_373 wd_12 wd_372 nd_L_doorWords rfl (by decide) ⟨Nat.zero_le _, Nat.zero_le _⟩ rfl (Nat.le_of_ble_eq_true rfl) dL_areDoors_177) ?_
        rintro z F' ⟨rfl, rfl⟩
        have qo177 := dwo_range (d := d) hI (by omega) (by omega)
        refine q_eqn C 235 dL_areDoors_180 (by decide) (by omega) ?_
        refine q_aload_n C 3 dL_areDoors_183 rfl ?_
        refine q_iload C 9 dL_areDoors_184 rfl ?_
        refine q_iconst C 2 dL_areDoors_186 ?_
        refine q_cI (q_runV (As := [.int (iI d), .int (iI 2)]) (rest := []) C ((k_X3_doorOf (F := F) l hA (d := d) (k := 2) ⟨by omega, by omega⟩ ⟨by decide, by decide⟩ (by unfold doorOfT; rw [if_neg (by omega), if_neg (by omega)])).post (fun z F' h => (⟨h.1.trans (rfl), h.2⟩ : z = dpr A.r d 2 ∧ F = F'))) kd0 (by decide) rfl wd_378 wd_376 wd_377 wd_13 wd_375 nd_X3_doorOf rfl (by decide) ⟨Nat.zero_le _, Nat.zero_le _⟩ rfl (Nat.le_of_ble_eq_true rfl) dL_areDoors_187) ?_
        rintro z F' ⟨rfl, rfl⟩
        refine q_iload C 10 dL_areDoors_190 rfl ?_
        refine q_iconst C 2 dL_areDoors_192 ?_
        refine q_idiv C dL_areDoors_193 ⟨by omega, by omega⟩ ⟨by decide, by decide⟩ ?_
        refine q_eqn C 235 dL_areDoors_194 (by decide) (by omega) ?_
        refine q_aload_n C 3 dL_areDoors_197 rfl ?_
        refine q_iload C 9 dL_areDoors_198 rfl ?_
        refine q_iconst C 3 dL_areDoors_200 ?_
        refine q_cI (q_runV (As := [.int (iI d), .int (iI 3)]) (rest := []) C ((k_X3_doorOf (F := F) l hA (d := d) (k := 3) ⟨by omega, by omega⟩ ⟨by decide, by decide⟩ (by unfold doorOfT; rw [if_neg (by omega), if_neg (by omega)])).post (fun z F' h => (⟨h.1.trans (rfl), h.2⟩ : z = dpr A.r d 3 ∧ F = F'))) kd0 (by decide) rfl wd_378 wd_376 wd_377 wd_13 wd_375 nd_X3_doorOf rfl (by decide) ⟨Nat.zero_le _, Nat.zero_le _⟩ rfl (Nat.le_of_ble_eq_true rfl) dL_areDoors_201) ?_
        rintro z F' ⟨rfl, rfl⟩
        refine q_aload_n C 6 dL_areDoors_204 rfl ?_
        refine q_bipush C 6 dL_areDoors_205 (by decide) ?_
        refine q_iload C 9 dL_areDoors_207 rfl ?_
        refine q_iadd C dL_areDoors_209 ?_
        refine q_iald9 C hLn ⟨by omega, by omega⟩ dL_areDoors_210 ?_
        refine q_eqn C 235 dL_areDoors_211 (by decide) (by omega) ?_
        refine q_aload_n C 3 dL_areDoors_214 rfl ?_
        refine q_iload C 9 dL_areDoors_215 rfl ?_
        refine q_iconst C 4 dL_areDoors_217 ?_
        refine q_cI (q_runV (As := [.int (iI d), .int (iI 4)]) (rest := []) C ((k_X3_doorOf (F := F) l hA (d := d) (k := 4) ⟨by omega, by omega⟩ ⟨by decide, by decide⟩ (by unfold doorOfT; rw [if_neg (by omega), if_neg (by omega)])).post (fun z F' h => (⟨h.1.trans (rfl), h.2⟩ : z = dpr A.r d 4 ∧ F = F'))) kd0 (by decide) rfl wd_378 wd_376 wd_377 wd_13 wd_375 nd_X3_doorOf rfl (by decide) ⟨Nat.zero_le _, Nat.zero_le _⟩ rfl (Nat.le_of_ble_eq_true rfl) dL_areDoors_218) ?_
        rintro z F' ⟨rfl, rfl⟩
        refine q_aload_n C 6 dL_areDoors_221 rfl ?_
        refine q_bipush C 10 dL_areDoors_222 (by decide) ?_
        refine q_iload C 9 dL_areDoors_224 rfl ?_
        refine q_iadd C dL_areDoors_226 ?_
        refine q_iald9 C hLn ⟨by omega, by omega⟩ dL_areDoors_227 ?_
        refine q_eqn C 235 dL_areDoors_228 (by decide) (by omega) ?_
        refine q_iconst C 1 dL_areDoors_231 ?_
        refine q_goto C 236 dL_areDoors_232 (by decide) ?_
        refine q_istore (lv' := [(8, .int (iI 1)), (6, .int (iI (sv + (F nn (10 + d))))), (5, .int (iI (sh + (dwo A.r d)))), (4, .int (iI (al + (dw A.r d)))), (0, .ref (adr w 0)), (1, .ref (adr w a)), (2, .ref (adr w b)), (3, .ref (adr w nn)), (7, .int (iI m)), (9, .int (iI d)), (10, .int (iI pr)), (11, .int (iI i))]) C dL_areDoors_236 (by decide) rfl ?_
        refine q_iinc (lv' := [(9, .int (iI (d + 1))), (8, .int (iI 1)), (6, .int (iI (sv + (F nn (10 + d))))), (5, .int (iI (sh + (dwo A.r d)))), (4, .int (iI (al + (dw A.r d)))), (0, .ref (adr w 0)), (1, .ref (adr w a)), (2, .ref (adr w b)), (3, .ref (adr w nn)), (7, .int (iI m)), (10, .int (iI pr)), (11, .int (iI i))]) C 9 dL_areDoors_238 rfl (by decide) rfl ?_
        refine q_goto C 66 dL_areDoors_241 (by decide) ?_
        refine q_lv (lv' := [(0, .ref (adr w 0)), (1, .ref (adr w a)), (2, .ref (adr w b)), (3, .ref (adr w nn)), (4, .int (iI (al + (dw A.r d)))), (5, .int (iI (sh + (dwo A.r d)))), (6, .int (iI (sv + (F nn (10 + d))))), (7, .int (iI m)), (8, .int (iI 1)), (9, .int (iI (d + 1)))]) [5, 6, 7, 8, 4, 3, 2, 9, 1, 0] rfl ?_
        exact ih66 (d + 1) (al + (dw A.r d)) (sh + (dwo A.r d)) (sv + (F nn (10 + d))) (⟨by omega, by omega, by rw [sm_s hd0]; omega, by rw [sm_s hd0]; omega, by rw [sm_s hd0]; omega⟩) (by omega)
      · refine q_iload C 10 dL_areDoors_97 rfl ?_
        refine q_aload_n C 1 dL_areDoors_99 rfl ?_
        refine q_aload_n C 2 dL_areDoors_100 rfl ?_
        refine q_iload C 11 dL_areDoors_101 rfl ?_
        refine q_cI (q_runS (As := [.ref (adr w a), .ref (adr w b), .int (iI i)]) (rest := [.int (iI pr)]) C (k_L_rhymes (F := F) (r := A.r) l hLa hW hI hLb hL (y := i) ⟨by omega, by omega⟩) wd_368 wd_367 wd_12 wd_366 nd_L_rhymes rfl (by decide) ⟨Nat.zero_le _, Nat.zero_le _⟩ rfl (Nat.le_of_ble_eq_true rfl) dL_areDoors_103) ?_
        rintro z F' ⟨rfl, rfl⟩
        have qr103 := rh_range A.r i
        refine q_iadd C dL_areDoors_106 ?_
        refine q_istore (lv' := [(10, .int (iI (pr + (rh A.r i)))), (0, .ref (adr w 0)), (1, .ref (adr w a)), (2, .ref (adr w b)), (3, .ref (adr w nn)), (4, .int (iI al)), (5, .int (iI sh)), (6, .int (iI sv)), (7, .int (iI m)), (8, .int (iI 1)), (9, .int (iI d)), (11, .int (iI i))]) C dL_areDoors_107 (by decide) rfl ?_
        refine q_iinc (lv' := [(11, .int (iI (i + 1))), (10, .int (iI (pr + (rh A.r i)))), (0, .ref (adr w 0)), (1, .ref (adr w a)), (2, .ref (adr w b)), (3, .ref (adr w nn)), (4, .int (iI al)), (5, .int (iI sh)), (6, .int (iI sv)), (7, .int (iI m)), (8, .int (iI 1)), (9, .int (iI d))]) C 11 dL_areDoors_109 rfl (by decide) rfl ?_
        refine q_goto C 86 dL_areDoors_112 (by decide) ?_
        refine q_lv (lv' := [(0, .ref (adr w 0)), (1, .ref (adr w a)), (2, .ref (adr w b)), (3, .ref (adr w nn)), (4, .int (iI al)), (5, .int (iI sh)), (6, .int (iI sv)), (7, .int (iI m)), (8, .int (iI 1)), (9, .int (iI d)), (10, .int (iI (pr + (rh A.r i)))), (11, .int (iI (i + 1)))]) [2, 3, 4, 5, 6, 7, 8, 9, 10, 11, 1, 0] rfl ?_
        exact ih86 (i + 1) (pr + (rh A.r i)) (⟨by omega, by omega, by rw [show i + 1 - 4 * d = (i - 4 * d) + 1 by omega, sm_s (by omega), rT_i (i := i) (by omega), hpr]⟩) (by omega)
  · refine q_iload C 8 dL_areDoors_25 rfl ?_
    refine q_if_eq C 63 dL_areDoors_27 ⟨by decide, by decide⟩  (by decide) (fun h => absurd h (by decide)) (fun _ => ?_)
    refine q_aload_n C 0 dL_areDoors_30 rfl ?_
    refine q_aload_n C 1 dL_areDoors_31 rfl ?_
    refine q_aload_n C 2 dL_areDoors_32 rfl ?_
    refine q_iload C 9 dL_areDoors_33 rfl ?_
    refine q_cI (q_runS (As := [.ref (adr w 0), .ref (adr w a), .ref (adr w b), .int (iI i)]) (rest := []) C (k_L_isLine (F := F) (a := a) (b := b) (y := i) l hLa hLb hLn hLt hTA hA ⟨by omega, by omega⟩) wd_288 wd_287 wd_12 wd_286 nd_L_isLine rfl (by decide) ⟨Nat.zero_le _, Nat.zero_le _⟩ rfl (Nat.le_of_ble_eq_true rfl) dL_areDoors_35) ?_
    rintro z F' ⟨rfl, rfl⟩
    refine q_istore (lv' := [(8, .int (iI 1)), (0, .ref (adr w 0)), (1, .ref (adr w a)), (2, .ref (adr w b)), (3, .ref (adr w nn)), (4, .int (iI 0)), (5, .int (iI 0)), (6, .int (iI 0)), (7, .int (iI m)), (9, .int (iI i))]) C dL_areDoors_38 (by decide) rfl ?_
    refine q_iload C 8 dL_areDoors_40 rfl ?_
    have hli := hI.ld (l := i) hi0 (by omega)
    refine q_aload_n C 3 dL_areDoors_42 rfl ?_
    refine q_iload C 9 dL_areDoors_43 rfl ?_
    refine q_iald9 C hLb ⟨by omega, by omega⟩ dL_areDoors_45 ?_
    rw [show F b i = A.r (112 + i) - 1 from hL i (by omega) (by omega)]
    refine q_if_ge C 53 dL_areDoors_46 ⟨by omega, by omega⟩  (by decide) (fun h46 => ?_) (fun h46 => ?_)
    · refine q_iconst C 1 dL_areDoors_53 ?_
      refine q_iadd C dL_areDoors_54 ?_
      refine q_istore (lv' := [(7, .int (iI (m + 1))), (8, .int (iI 1)), (0, .ref (adr w 0)), (1, .ref (adr w a)), (2, .ref (adr w b)), (3, .ref (adr w nn)), (4, .int (iI 0)), (5, .int (iI 0)), (6, .int (iI 0)), (9, .int (iI i))]) C dL_areDoors_55 (by decide) rfl ?_
      refine q_iinc (lv' := [(9, .int (iI (i + 1))), (7, .int (iI (m + 1))), (8, .int (iI 1)), (0, .ref (adr w 0)), (1, .ref (adr w a)), (2, .ref (adr w b)), (3, .ref (adr w nn)), (4, .int (iI 0)), (5, .int (iI 0)), (6, .int (iI 0))]) C 9 dL_areDoors_57 rfl (by decide) rfl ?_
      refine q_goto C 18 dL_areDoors_60 (by decide) ?_
      refine q_lv (lv' := [(0, .ref (adr w 0)), (1, .ref (adr w a)), (2, .ref (adr w b)), (3, .ref (adr w nn)), (4, .int (iI 0)), (5, .int (iI 0)), (6, .int (iI 0)), (7, .int (iI (m + 1))), (8, .int (iI 1)), (9, .int (iI (i + 1)))]) [3, 4, 5, 6, 7, 8, 9, 1, 2, 0] rfl ?_
      exact ih18 (i + 1) (m + 1) (⟨by omega, by omega, by rw [sm_s hi0]; first | (rw [lnT_0 (by omega)]; omega) | (rw [lnT_1 (by omega)]; omega)⟩) (by omega)
    · refine q_iconst C 0 dL_areDoors_49 ?_
      refine q_goto C 54 dL_areDoors_50 (by decide) ?_
      refine q_iadd C dL_areDoors_54 ?_
      refine q_istore (lv' := [(7, .int (iI (m + 0))), (8, .int (iI 1)), (0, .ref (adr w 0)), (1, .ref (adr w a)), (2, .ref (adr w b)), (3, .ref (adr w nn)), (4, .int (iI 0)), (5, .int (iI 0)), (6, .int (iI 0)), (9, .int (iI i))]) C dL_areDoors_55 (by decide) rfl ?_
      refine q_iinc (lv' := [(9, .int (iI (i + 1))), (7, .int (iI (m + 0))), (8, .int (iI 1)), (0, .ref (adr w 0)), (1, .ref (adr w a)), (2, .ref (adr w b)), (3, .ref (adr w nn)), (4, .int (iI 0)), (5, .int (iI 0)), (6, .int (iI 0))]) C 9 dL_areDoors_57 rfl (by decide) rfl ?_
      refine q_goto C 18 dL_areDoors_60 (by decide) ?_
      refine q_lv (lv' := [(0, .ref (adr w 0)), (1, .ref (adr w a)), (2, .ref (adr w b)), (3, .ref (adr w nn)), (4, .int (iI 0)), (5, .int (iI 0)), (6, .int (iI 0)), (7, .int (iI (m + 0))), (8, .int (iI 1)), (9, .int (iI (i + 1)))]) [3, 4, 5, 6, 7, 8, 9, 1, 2, 0] rfl ?_
      exact ih18 (i + 1) (m + 0) (⟨by omega, by omega, by rw [sm_s hi0]; first | (rw [lnT_0 (by omega)]; omega) | (rw [lnT_1 (by omega)]; omega)⟩) (by omega)
