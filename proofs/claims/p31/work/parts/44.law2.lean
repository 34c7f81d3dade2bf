/-! the law's changes -/
theorem q_F {p : Program} {l : Launch} {e : Env} {R : Room} {s : State} {m : MethodId} {args : Array Value} {below : List Frame} {meth : Method} {c : Code} {Qf : State → Prop} {w : WP} {k n nL pc : Nat} {lv : List (Nat × Value)} {st : List Value} {F F' : FF} (h : F' = F) (kk : Wq p l e R s m args below meth c Qf w k n nL pc lv st F') : Wq p l e R s m args below meth c Qf w k n nL pc lv st F := h ▸ kk
def SD (r : Rw) (f ib k fd : Int) : Prop := (fd = -1 ∧ ∀ j, 0 ≤ j → j < k → ¬ (home r ((f + j) % 40) = -1 ↔ ib = 1)) ∨ ((0 ≤ fd ∧ fd < 40) ∧ (home r fd = -1 ↔ ib = 1))
theorem SD_0 {r : Rw} {f ib : Int} : SD r f ib 0 (-1) := Or.inl ⟨rfl, fun j a b => by omega⟩
theorem SD_rng {r : Rw} {f ib k fd : Int} (h : SD r f ib k fd) : -1 ≤ fd ∧ fd < 40 := by rcases h with ⟨a, _⟩ | ⟨a, _⟩ <;> omega
theorem SD_in {r : Rw} {f ib k z : Int} (h0 : 0 ≤ z ∧ z < 40) (h : home r z = -1 ↔ ib = 1) : SD r f ib (k + 1) z := Or.inr ⟨h0, h⟩
theorem SD_no {r : Rw} {f ib k fd : Int} (h : SD r f ib k fd) (hf : fd < 0) (hn : ¬ (home r ((f + k) % 40) = -1 ↔ ib = 1)) : SD r f ib (k + 1) fd := by
  rcases h with ⟨a, b⟩ | ⟨a, b⟩
  · refine Or.inl ⟨a, fun j j0 j1 => ?_⟩
    by_cases e : j = k
    · rw [e]; exact hn
    · exact b j j0 (by omega)
  · omega
theorem SD_end {r : Rw} {f ib k fd : Int} (h : SD r f ib k fd) (hf : 0 ≤ f ∧ f < 40) (hk : 40 ≤ k ∨ 0 ≤ fd) : (fd = -1 ∧ ∀ x, 0 ≤ x → x < 40 → ¬ (home r x = -1 ↔ ib = 1)) ∨ ((0 ≤ fd ∧ fd < 40) ∧ (home r fd = -1 ↔ ib = 1)) := by
  rcases h with ⟨a, b⟩ | h
  · refine Or.inl ⟨a, fun x x0 x1 => ?_⟩
    have := b ((x - f) % 40) (by omega) (by omega)
    rw [show (f + (x - f) % 40) % 40 = x by omega] at this
    exact this
  · exact Or.inr h
def fr9 (r : Rw) (y : Int) : Prop := 0 < r y ∧ r (112 + y) = 0 ∧ bor r y = -1
def FRk (r : Rw) (y k is : Int) : Prop := (is = 1 ∧ (0 < r y ∧ r (112 + y) = 0) ∧ ∀ j, 0 ≤ j → j < k → r (112 + j) ≠ y + 1) ∨ (is = 0 ∧ ¬ fr9 r y)
theorem FRk_rng {r : Rw} {y k is : Int} (h : FRk r y k is) : 0 ≤ is ∧ is ≤ 1 := by rcases h with ⟨a, _⟩ | ⟨a, _⟩ <;> omega
theorem FRk_1 {r : Rw} {y : Int} (h : 0 < r y) (h2 : r (112 + y) = 0) : FRk r y 0 1 := Or.inl ⟨rfl, ⟨h, h2⟩, fun j a b => by omega⟩
theorem FRk_0 {r : Rw} {y : Int} (h : ¬ fr9 r y) : FRk r y 0 0 := Or.inr ⟨rfl, h⟩
theorem FRk_in {r : Rw} {y k is : Int} (h : FRk r y k is) (hs : ¬ is = 0) (hn : ¬ r (112 + k) = y + 1) : FRk r y (k + 1) 1 := by
  rcases h with ⟨a, b, c⟩ | ⟨a, b⟩
  · refine Or.inl ⟨rfl, b, fun j j0 j1 => ?_⟩
    by_cases e : j = k
    · rw [e]; exact hn
    · exact c j j0 (by omega)
  · exact absurd a hs
theorem FRk_out {r : Rw} {y k is : Int} (h : FRk r y k is) (h0 : 0 ≤ k) (h1 : k < 16) (hn : is = 0 ∨ r (112 + k) = y + 1) : FRk r y (k + 1) 0 := by
  refine Or.inr ⟨rfl, ?_⟩
  rcases h with ⟨a, b, c⟩ | ⟨a, b⟩
  · intro g
    exact bor_no g.2.2 h0 h1 (hn.resolve_left (by omega))
  · exact b
theorem FRk_end {r : Rw} {y k is : Int} (h : FRk r y k is) (hk : 16 ≤ k) : is = 1 ∧ fr9 r y ∨ is = 0 ∧ ¬ fr9 r y := by
  rcases h with ⟨a, b, c⟩ | h
  · exact Or.inl ⟨a, b.1, b.2, fs_no (by decide) (fun j j0 j1 => decide_eq_false (c j j0 (by omega)))⟩
  · exact Or.inr h

set_option maxRecDepth 100000 in
set_option maxHeartbeats 4000000 in
theorem k_L_prey (l : Launch) {w : WP} {F : FF} {a : Nat} {r : Rw} (hLa : LwP w a 40) (hW : TW F a r) (hI : Iv r) {b : Nat} (hLb : LwP w b 16) (hL : TL F b r) {nn : Nat} (hLn : LwP w nn 14) (hN : TN F nn r)  : Con l yL_prey cL_prey 9 (some .int) 6 w [.ref (adr w a), .ref (adr w b), .ref (adr w nn)] F (QI w (fun z F' => z = py r ∧ F = F')) := by
  refine Con.mk (lv := [(0, .ref (adr w a)), (1, .ref (adr w b)), (2, .ref (adr w nn))]) (by decide) (Nat.le_of_ble_eq_true rfl) rfl ?_
  intro pg ev s0 mi be me co C hz
  have hse := hI.se
  refine q_iconst C (-1) dL_prey_0 ?_
  refine q_istore_n (lv' := [(3, .int (iI (-1))), (0, .ref (adr w a)), (1, .ref (adr w b)), (2, .ref (adr w nn))]) C dL_prey_1 (by decide) rfl ?_
  refine q_iconst C 3 dL_prey_2 ?_
  refine q_istore (lv' := [(4, .int (iI 3)), (3, .int (iI (-1))), (0, .ref (adr w a)), (1, .ref (adr w b)), (2, .ref (adr w nn))]) C dL_prey_3 (by decide) rfl ?_
  refine q_lv (lv' := [(0, .ref (adr w a)), (1, .ref (adr w b)), (2, .ref (adr w nn)), (3, .int (iI (-1))), (4, .int (iI 3))]) [2, 3, 4, 1, 0] rfl ?_
  refine wf2 (P := fun (k : Int) (dr : Int) => Wq pg l ev _ s0 mi _ be me co _ w _ _ _ 5 [(0, .ref (adr w a)), (1, .ref (adr w b)), (2, .ref (adr w nn)), (3, .int (iI dr)), (4, .int (iI k))] [] F) (I := fun (k : Int) (dr : Int) => -1 ≤ k ∧ k ≤ 3 ∧ PD r k dr) (μ := fun (k : Int) (dr : Int) => (k + 1).toNat) ?_ 3 (-1) (⟨by omega, by omega, PD_0⟩)
  intro k dr hI' ih5
  (try dsimp only at hI'); (try dsimp only at ih5); (try dsimp only)
  obtain ⟨hi0, hi1, hP⟩ := hI'
  have hpd := PD_rng hP hi0
  refine q_iload C 4 dL_prey_5 rfl ?_
  refine q_if_lt C 87 dL_prey_7 ⟨by omega, by omega⟩  (by decide) (fun h7 => ?_) (fun h7 => ?_)
  · have hdr := PD_tg hP (by omega)
    refine q_iconst C (-1) dL_prey_87 ?_
    refine q_istore (lv' := [(4, .int (iI (-1))), (0, .ref (adr w a)), (1, .ref (adr w b)), (2, .ref (adr w nn)), (3, .int (iI dr))]) C dL_prey_88 (by decide) rfl ?_
    refine q_iconst C (-1) dL_prey_90 ?_
    refine q_istore (lv' := [(5, .int (iI (-1))), (4, .int (iI (-1))), (0, .ref (adr w a)), (1, .ref (adr w b)), (2, .ref (adr w nn)), (3, .int (iI dr))]) C dL_prey_91 (by decide) rfl ?_
    refine q_iconst C 0 dL_prey_93 ?_
    refine q_istore (lv' := [(6, .int (iI 0)), (5, .int (iI (-1))), (4, .int (iI (-1))), (0, .ref (adr w a)), (1, .ref (adr w b)), (2, .ref (adr w nn)), (3, .int (iI dr))]) C dL_prey_94 (by decide) rfl ?_
    refine q_lv (lv' := [(0, .ref (adr w a)), (1, .ref (adr w b)), (2, .ref (adr w nn)), (3, .int (iI dr)), (4, .int (iI (-1))), (5, .int (iI (-1))), (6, .int (iI 0))]) [3, 4, 5, 6, 2, 1, 0] rfl ?_
    refine wf3 (P := fun (i : Int) (bx : Int) (mo : Int) => Wq pg l ev _ s0 mi _ be me co _ w _ _ _ 96 [(0, .ref (adr w a)), (1, .ref (adr w b)), (2, .ref (adr w nn)), (3, .int (iI dr)), (4, .int (iI bx)), (5, .int (iI mo)), (6, .int (iI i))] [] F) (I := fun (i : Int) (bx : Int) (mo : Int) => 0 ≤ i ∧ i ≤ 40 ∧ BD r dr i bx mo) (μ := fun (i : Int) (bx : Int) (mo : Int) => (40 - i).toNat) ?_ 0 (-1) (-1) (⟨by omega, by omega, BD_0⟩)
    intro i bx mo hI' ih96
    (try dsimp only at hI'); (try dsimp only at ih96); (try dsimp only)
    obtain ⟨hi0, hi1, hB⟩ := hI'
    have hmo := BD_mo hI hB
    refine q_iload C 6 dL_prey_96 rfl ?_
    refine q_bipush C 40 dL_prey_98 (by decide) ?_
    refine q_icmp_ge C 201 dL_prey_100 ⟨by omega, by omega⟩ ⟨by decide, by decide⟩ (by decide) (fun h100 => ?_) (fun h100 => ?_)
    · refine q_iload C 4 dL_prey_201 rfl ?_
      refine q_iret C dL_prey_203 ?_
      exact ⟨BD_py (mo := mo) hI (by rw [← hdr, show (40 : Int) = i by omega]; exact hB), rfl⟩
    · have hf := hW i (by omega) (by omega)
      have hc := whv_c hI i
      have hrk := rkF_c hI (v := F a i) hf
      have hdm := dm8 (v := F a i) (by omega)
      refine q_bipush C 100 dL_prey_103 (by decide) ?_
      refine q_iload C 6 dL_prey_105 rfl ?_
      refine q_iconst C 3 dL_prey_107 ?_
      refine q_irem C dL_prey_108 ⟨by omega, by omega⟩ ⟨by decide, by decide⟩ ?_
      refine q_imul C dL_prey_109 ?_
      refine q_bipush C 10 dL_prey_110 (by decide) ?_
      refine q_aload_n C 0 dL_prey_112 rfl ?_
      refine q_iload C 6 dL_prey_113 rfl ?_
      refine q_iald9 C hLa ⟨by omega, by omega⟩ dL_prey_115 ?_
      refine q_bipush C 8 dL_prey_116 (by decide) ?_
      refine q_idivz C (dv8 (F a i)) ⟨⟨by decide, by decide⟩, by decide⟩ (dv8_e ⟨by omega, by omega⟩) dL_prey_118 ?_
      refine q_iconst C 4 dL_prey_119 ?_
      refine q_irem C dL_prey_120 ⟨by omega, by omega⟩ ⟨by decide, by decide⟩ ?_
      refine q_imul C dL_prey_121 ?_
      refine q_iadd C dL_prey_122 ?_
      refine q_iconst C 5 dL_prey_123 ?_
      refine q_iadd C dL_prey_124 ?_
      refine q_aload_n C 0 dL_prey_125 rfl ?_
      refine q_iload C 6 dL_prey_126 rfl ?_
      refine q_iald9 C hLa ⟨by omega, by omega⟩ dL_prey_128 ?_
      refine q_bipush C 8 dL_prey_129 (by decide) ?_
      refine q_iremz C (md8 (F a i)) ⟨⟨by decide, by decide⟩, by decide⟩ (md8_e ⟨by omega, by omega⟩) dL_prey_131 ?_
      refine q_isub C dL_prey_132 ?_
      refine q_top (z' := rkF (F a i) i) (rfl) ?_
      refine q_istore (lv' := [(7, .int (iI (rkF (F a i) i))), (0, .ref (adr w a)), (1, .ref (adr w b)), (2, .ref (adr w nn)), (3, .int (iI dr)), (4, .int (iI bx)), (5, .int (iI mo)), (6, .int (iI i))]) C dL_prey_133 (by decide) rfl ?_
      refine q_aload_n C 1 dL_prey_135 rfl ?_
      refine q_iload C 7 dL_prey_136 rfl ?_
      refine q_iald9 C hLa ⟨by omega, by omega⟩ dL_prey_138 ?_
      refine q_if_lt C 164 dL_prey_139 ⟨by omega, by omega⟩  (by decide) (fun h139 => ?_) (fun h139 => ?_)
      · refine q_iconst C 0 dL_prey_164 ?_
        refine q_istore (lv' := [(8, .int (iI 0)), (7, .int (iI (rkF (F a i) i))), (0, .ref (adr w a)), (1, .ref (adr w b)), (2, .ref (adr w nn)), (3, .int (iI dr)), (4, .int (iI bx)), (5, .int (iI mo)), (6, .int (iI i))]) C dL_prey_165 (by decide) rfl ?_
        refine q_iload C 0 dL_prey_167 rfl ?_
        refine q_if_eq C 177 dL_prey_169 ⟨by decide, by decide⟩  (by decide) (fun _ => ?_) (fun h => absurd h (by decide))
        refine q_iload C 6 dL_prey_177 rfl ?_
        refine q_istore (lv' := [(4, .int (iI bx)), (8, .int (iI 0)), (7, .int (iI (rkF (F a i) i))), (0, .ref (adr w a)), (1, .ref (adr w b)), (2, .ref (adr w nn)), (3, .int (iI dr)), (5, .int (iI mo)), (6, .int (iI i))]) C dL_prey_179 (by decide) rfl ?_
        refine q_iload C 1 dL_prey_181 rfl ?_
        refine q_if_eq C 191 dL_prey_183 ⟨by decide, by decide⟩  (by decide) (fun _ => ?_) (fun h => absurd h (by decide))
        refine q_iload C 7 dL_prey_191 rfl ?_
        refine q_istore (lv' := [(5, .int (iI mo)), (4, .int (iI bx)), (8, .int (iI 0)), (7, .int (iI (rkF (F a i) i))), (0, .ref (adr w a)), (1, .ref (adr w b)), (2, .ref (adr w nn)), (3, .int (iI dr)), (6, .int (iI i))]) C dL_prey_193 (by decide) rfl ?_
        refine q_iinc (lv' := [(6, .int (iI (i + 1))), (5, .int (iI mo)), (4, .int (iI bx)), (8, .int (iI 0)), (7, .int (iI (rkF (F a i) i))), (0, .ref (adr w a)), (1, .ref (adr w b)), (2, .ref (adr w nn)), (3, .int (iI dr))]) C 8 dL_prey_195 rfl (by decide) rfl ?_
        refine q_goto C 96 dL_prey_198 (by decide) ?_
        refine q_lv (lv' := [(0, .ref (adr w a)), (1, .ref (adr w b)), (2, .ref (adr w nn)), (3, .int (iI dr)), (4, .int (iI bx)), (5, .int (iI mo)), (6, .int (iI (i + 1)))]) [5, 6, 7, 8, 2, 1, 0] rfl ?_
        exact ih96 (i + 1) bx mo (⟨by omega, by omega, by first | exact BD_no hB (by unfold onD; omega) | exact BD_in hB hi0 (by unfold onD; omega) (hrk.2 (by omega)) (by omega) | exact BD_out hI hB (by unfold onD; omega) (by have := hrk.2 (by omega); omega)⟩) (by omega)
      · refine q_aload_n C 1 dL_prey_142 rfl ?_
        refine q_iload C 7 dL_prey_143 rfl ?_
        refine q_iald9 C hLa ⟨by omega, by omega⟩ dL_prey_145 ?_
        refine q_bipush C 32 dL_prey_146 (by decide) ?_
        refine q_idiv C dL_prey_148 ⟨by omega, by omega⟩ ⟨by decide, by decide⟩ ?_
        refine q_iload_n C 4 dL_prey_149 rfl ?_
        refine q_icmp_ne C 164 dL_prey_150 ⟨by omega, by omega⟩ ⟨by omega, by omega⟩ (by decide) (fun h150 => ?_) (fun h150 => ?_)
        · refine q_iconst C 0 dL_prey_164 ?_
          refine q_istore (lv' := [(8, .int (iI 0)), (7, .int (iI (rkF (F a i) i))), (0, .ref (adr w a)), (1, .ref (adr w b)), (2, .ref (adr w nn)), (3, .int (iI dr)), (4, .int (iI bx)), (5, .int (iI mo)), (6, .int (iI i))]) C dL_prey_165 (by decide) rfl ?_
          refine q_iload C 0 dL_prey_167 rfl ?_
          refine q_if_eq C 177 dL_prey_169 ⟨by decide, by decide⟩  (by decide) (fun _ => ?_) (fun h => absurd h (by decide))
          refine q_iload C 6 dL_prey_177 rfl ?_
          refine q_istore (lv' := [(4, .int (iI bx)), (8, .int (iI 0)), (7, .int (iI (rkF (F a i) i))), (0, .ref (adr w a)), (1, .ref (adr w b)), (2, .ref (adr w nn)), (3, .int (iI dr)), (5, .int (iI mo)), (6, .int (iI i))]) C dL_prey_179 (by decide) rfl ?_
          refine q_iload C 1 dL_prey_181 rfl ?_
          refine q_if_eq C 191 dL_prey_183 ⟨by decide, by decide⟩  (by decide) (fun _ => ?_) (fun h => absurd h (by decide))
          refine q_iload C 7 dL_prey_191 rfl ?_
          refine q_istore (lv' := [(5, .int (iI mo)), (4, .int (iI bx)), (8, .int (iI 0)), (7, .int (iI (rkF (F a i) i))), (0, .ref (adr w a)), (1, .ref (adr w b)), (2, .ref (adr w nn)), (3, .int (iI dr)), (6, .int (iI i))]) C dL_prey_193 (by decide) rfl ?_
          refine q_iinc (lv' := [(6, .int (iI (i + 1))), (5, .int (iI mo)), (4, .int (iI bx)), (8, .int (iI 0)), (7, .int (iI (rkF (F a i) i))), (0, .ref (adr w a)), (1, .ref (adr w b)), (2, .ref (adr w nn)), (3, .int (iI dr))]) C 8 dL_prey_195 rfl (by decide) rfl ?_
          refine q_goto C 96 dL_prey_198 (by decide) ?_
          refine q_lv (lv' := [(0, .ref (adr w a)), (1, .ref (adr w b)), (2, .ref (adr w nn)), (3, .int (iI dr)), (4, .int (iI bx)), (5, .int (iI mo)), (6, .int (iI (i + 1)))]) [5, 6, 7, 8, 2, 1, 0] rfl ?_
          exact ih96 (i + 1) bx mo (⟨by omega, by omega, by first | exact BD_no hB (by unfold onD; omega) | exact BD_in hB hi0 (by unfold onD; omega) (hrk.2 (by omega)) (by omega) | exact BD_out hI hB (by unfold onD; omega) (by have := hrk.2 (by omega); omega)⟩) (by omega)
        · refine q_iload C 0 dL_prey_153 rfl ?_
          refine q_iload C 6 dL_prey_155 rfl ?_
          refine q_icmp_le C 164 dL_prey_157 ⟨by omega, by omega⟩ ⟨by omega, by omega⟩ (by decide) (fun h157 => ?_) (fun h157 => ?_)
          · refine q_iconst C 0 dL_prey_164 ?_
            refine q_istore (lv' := [(8, .int (iI 0)), (7, .int (iI (rkF (F a i) i))), (0, .ref (adr w a)), (1, .ref (adr w b)), (2, .ref (adr w nn)), (3, .int (iI dr)), (4, .int (iI bx)), (5, .int (iI mo)), (6, .int (iI i))]) C dL_prey_165 (by decide) rfl ?_
            refine q_iload C 0 dL_prey_167 rfl ?_
            refine q_if_eq C 177 dL_prey_169 ⟨by decide, by decide⟩  (by decide) (fun _ => ?_) (fun h => absurd h (by decide))
            refine q_iload C 6 dL_prey_177 rfl ?_
            refine q_istore (lv' := [(4, .int (iI bx)), (8, .int (iI 0)), (7, .int (iI (rkF (F a i) i))), (0, .ref (adr w a)), (1, .ref (adr w b)), (2, .ref (adr w nn)), (3, .int (iI dr)), (5, .int (iI mo)), (6, .int (iI i))]) C dL_prey_179 (by decide) rfl ?_
            refine q_iload C 1 dL_prey_181 rfl ?_
            refine q_if_eq C 191 dL_prey_183 ⟨by decide, by decide⟩  (by decide) (fun _ => ?_) (fun h => absurd h (by decide))
            refine q_iload C 7 dL_prey_191 rfl ?_
            refine q_istore (lv' := [(5, .int (iI mo)), (4, .int (iI bx)), (8, .int (iI 0)), (7, .int (iI (rkF (F a i) i))), (0, .ref (adr w a)), (1, .ref (adr w b)), (2, .ref (adr w nn)), (3, .int (iI dr)), (6, .int (iI i))]) C dL_prey_193 (by decide) rfl ?_
            refine q_iinc (lv' := [(6, .int (iI (i + 1))), (5, .int (iI mo)), (4, .int (iI bx)), (8, .int (iI 0)), (7, .int (iI (rkF (F a i) i))), (0, .ref (adr w a)), (1, .ref (adr w b)), (2, .ref (adr w nn)), (3, .int (iI dr))]) C 8 dL_prey_195 rfl (by decide) rfl ?_
            refine q_goto C 96 dL_prey_198 (by decide) ?_
            refine q_lv (lv' := [(0, .ref (adr w a)), (1, .ref (adr w b)), (2, .ref (adr w nn)), (3, .int (iI dr)), (4, .int (iI bx)), (5, .int (iI mo)), (6, .int (iI (i + 1)))]) [5, 6, 7, 8, 2, 1, 0] rfl ?_
            exact ih96 (i + 1) bx mo (⟨by omega, by omega, by first | exact BD_no hB (by unfold onD; omega) | exact BD_in hB hi0 (by unfold onD; omega) (hrk.2 (by omega)) (by omega) | exact BD_out hI hB (by unfold onD; omega) (by have := hrk.2 (by omega); omega)⟩) (by omega)
          · refine q_iconst C 1 dL_prey_160 ?_
            refine q_goto C 165 dL_prey_161 (by decide) ?_
            refine q_istore (lv' := [(8, .int (iI 1)), (7, .int (iI (rkF (F a i) i))), (0, .ref (adr w a)), (1, .ref (adr w b)), (2, .ref (adr w nn)), (3, .int (iI dr)), (4, .int (iI bx)), (5, .int (iI mo)), (6, .int (iI i))]) C dL_prey_165 (by decide) rfl ?_
            refine q_iload C 0 dL_prey_167 rfl ?_
            refine q_if_eq C 177 dL_prey_169 ⟨by decide, by decide⟩  (by decide) (fun h => absurd h (by decide)) (fun _ => ?_)
            refine q_iload C 8 dL_prey_172 rfl ?_
            refine q_goto C 179 dL_prey_174 (by decide) ?_
            refine q_istore (lv' := [(4, .int (iI i)), (8, .int (iI 1)), (7, .int (iI (rkF (F a i) i))), (0, .ref (adr w a)), (1, .ref (adr w b)), (2, .ref (adr w nn)), (3, .int (iI dr)), (5, .int (iI mo)), (6, .int (iI i))]) C dL_prey_179 (by decide) rfl ?_
            refine q_iload C 1 dL_prey_181 rfl ?_
            refine q_if_eq C 191 dL_prey_183 ⟨by decide, by decide⟩  (by decide) (fun h => absurd h (by decide)) (fun _ => ?_)
            refine q_iload C 2 dL_prey_186 rfl ?_
            refine q_goto C 193 dL_prey_188 (by decide) ?_
            refine q_istore (lv' := [(5, .int (iI (rkF (F a i) i))), (4, .int (iI i)), (8, .int (iI 1)), (7, .int (iI (rkF (F a i) i))), (0, .ref (adr w a)), (1, .ref (adr w b)), (2, .ref (adr w nn)), (3, .int (iI dr)), (6, .int (iI i))]) C dL_prey_193 (by decide) rfl ?_
            refine q_iinc (lv' := [(6, .int (iI (i + 1))), (5, .int (iI (rkF (F a i) i))), (4, .int (iI i)), (8, .int (iI 1)), (7, .int (iI (rkF (F a i) i))), (0, .ref (adr w a)), (1, .ref (adr w b)), (2, .ref (adr w nn)), (3, .int (iI dr))]) C 8 dL_prey_195 rfl (by decide) rfl ?_
            refine q_goto C 96 dL_prey_198 (by decide) ?_
            refine q_lv (lv' := [(0, .ref (adr w a)), (1, .ref (adr w b)), (2, .ref (adr w nn)), (3, .int (iI dr)), (4, .int (iI i)), (5, .int (iI (rkF (F a i) i))), (6, .int (iI (i + 1)))]) [5, 6, 7, 8, 2, 1, 0] rfl ?_
            exact ih96 (i + 1) i (rkF (F a i) i) (⟨by omega, by omega, by first | exact BD_no hB (by unfold onD; omega) | exact BD_in hB hi0 (by unfold onD; omega) (hrk.2 (by omega)) (by omega) | exact BD_out hI hB (by unfold onD; omega) (by have := hrk.2 (by omega); omega)⟩) (by omega)
  · have qwt := hI.wt (d := k) (by omega) (by omega)
    refine q_aload_n C 0 dL_prey_10 rfl ?_
    refine q_iload C 4 dL_prey_11 rfl ?_
    refine q_cI (q_runS (As := [.ref (adr w a), .int (iI k)]) (rest := []) C (k_L_doorWords (F := F) (r := r) l hLa hW hI (d := k) ⟨by omega, by omega⟩) wd_374 wd_373 wd_12 wd_372 nd_L_doorWords rfl (by decide) ⟨Nat.zero_le _, Nat.zero_le _⟩ rfl (Nat.le_of_ble_eq_true rfl) dL_prey_13) ?_
    rintro z F' ⟨rfl, rfl⟩
    have qo13 := dwo_range (d := k) hI (by omega) (by omega)
    refine q_if_le C 46 dL_prey_16 ⟨by omega, by omega⟩  (by decide) (fun h16 => ?_) (fun h16 => ?_)
    · refine q_iconst C 0 dL_prey_46 ?_
      refine q_istore (lv' := [(5, .int (iI 0)), (0, .ref (adr w a)), (1, .ref (adr w b)), (2, .ref (adr w nn)), (3, .int (iI dr)), (4, .int (iI k))]) C dL_prey_47 (by decide) rfl ?_
      refine q_iload C 0 dL_prey_49 rfl ?_
      refine q_if_eq C 79 dL_prey_51 ⟨by decide, by decide⟩  (by decide) (fun _ => ?_) (fun h => absurd h (by decide))
      refine q_iload_n C 4 dL_prey_79 rfl ?_
      refine q_istore_n (lv' := [(3, .int (iI dr)), (5, .int (iI 0)), (0, .ref (adr w a)), (1, .ref (adr w b)), (2, .ref (adr w nn)), (4, .int (iI k))]) C dL_prey_80 (by decide) rfl ?_
      refine q_iinc (lv' := [(4, .int (iI (k + (-1)))), (3, .int (iI dr)), (5, .int (iI 0)), (0, .ref (adr w a)), (1, .ref (adr w b)), (2, .ref (adr w nn))]) C 5 dL_prey_81 rfl (by decide) rfl ?_
      refine q_goto C 5 dL_prey_84 (by decide) ?_
      refine q_lv (lv' := [(0, .ref (adr w a)), (1, .ref (adr w b)), (2, .ref (adr w nn)), (3, .int (iI dr)), (4, .int (iI (k + (-1))))]) [3, 4, 5, 1, 0] rfl ?_
      exact ih5 (k + (-1)) dr (⟨by omega, by omega, by first | exact PD_no hP (by unfold may; omega) | exact PD_in hP ⟨by omega, by omega⟩ (by unfold may; omega) (by omega) | exact PD_out hP (by omega)⟩) (by omega)
    · refine q_aload_n C 2 dL_prey_19 rfl ?_
      refine q_bipush C 6 dL_prey_20 (by decide) ?_
      refine q_iload C 4 dL_prey_22 rfl ?_
      refine q_iadd C dL_prey_24 ?_
      refine q_iald9 C hLn ⟨by omega, by omega⟩ dL_prey_25 ?_
      rw [show F nn (6 + k) = r (128 + k) from (hN.2 k (by omega) (by omega)).1]
      refine q_if_ne C 46 dL_prey_26 ⟨by omega, by omega⟩  (by decide) (fun h26 => ?_) (fun h26 => ?_)
      · refine q_iconst C 0 dL_prey_46 ?_
        refine q_istore (lv' := [(5, .int (iI 0)), (0, .ref (adr w a)), (1, .ref (adr w b)), (2, .ref (adr w nn)), (3, .int (iI dr)), (4, .int (iI k))]) C dL_prey_47 (by decide) rfl ?_
        refine q_iload C 0 dL_prey_49 rfl ?_
        refine q_if_eq C 79 dL_prey_51 ⟨by decide, by decide⟩  (by decide) (fun _ => ?_) (fun h => absurd h (by decide))
        refine q_iload_n C 4 dL_prey_79 rfl ?_
        refine q_istore_n (lv' := [(3, .int (iI dr)), (5, .int (iI 0)), (0, .ref (adr w a)), (1, .ref (adr w b)), (2, .ref (adr w nn)), (4, .int (iI k))]) C dL_prey_80 (by decide) rfl ?_
        refine q_iinc (lv' := [(4, .int (iI (k + (-1)))), (3, .int (iI dr)), (5, .int (iI 0)), (0, .ref (adr w a)), (1, .ref (adr w b)), (2, .ref (adr w nn))]) C 5 dL_prey_81 rfl (by decide) rfl ?_
        refine q_goto C 5 dL_prey_84 (by decide) ?_
        refine q_lv (lv' := [(0, .ref (adr w a)), (1, .ref (adr w b)), (2, .ref (adr w nn)), (3, .int (iI dr)), (4, .int (iI (k + (-1))))]) [3, 4, 5, 1, 0] rfl ?_
        exact ih5 (k + (-1)) dr (⟨by omega, by omega, by first | exact PD_no hP (by unfold may; omega) | exact PD_in hP ⟨by omega, by omega⟩ (by unfold may; omega) (by omega) | exact PD_out hP (by omega)⟩) (by omega)
      · refine q_aload_n C 0 dL_prey_29 rfl ?_
        refine q_aload_n C 1 dL_prey_30 rfl ?_
        refine q_iload C 4 dL_prey_31 rfl ?_
        refine q_cI (q_runS (As := [.ref (adr w a), .ref (adr w b), .int (iI k)]) (rest := []) C (k_L_doorWorth (F := F) (r := r) l hLa hW hI hLb hL (d := k) ⟨by omega, by omega⟩) wd_371 wd_370 wd_12 wd_369 nd_L_doorWorth rfl (by decide) ⟨Nat.zero_le _, Nat.zero_le _⟩ rfl (Nat.le_of_ble_eq_true rfl) dL_prey_33) ?_
        rintro z F' ⟨rfl, rfl⟩
        have qd33 := dw_range (d := k) hI (by omega) (by omega)
        refine q_aload_n C 2 dL_prey_36 rfl ?_
        refine q_iconst C 1 dL_prey_37 ?_
        refine q_iald9 C hLn ⟨by omega, by omega⟩ dL_prey_38 ?_
        rw [show F nn 1 = r 177 from hN.1.2.1]
        refine q_icmp_lt C 46 dL_prey_39 ⟨by omega, by omega⟩ ⟨by omega, by omega⟩ (by decide) (fun h39 => ?_) (fun h39 => ?_)
        · refine q_iconst C 0 dL_prey_46 ?_
          refine q_istore (lv' := [(5, .int (iI 0)), (0, .ref (adr w a)), (1, .ref (adr w b)), (2, .ref (adr w nn)), (3, .int (iI dr)), (4, .int (iI k))]) C dL_prey_47 (by decide) rfl ?_
          refine q_iload C 0 dL_prey_49 rfl ?_
          refine q_if_eq C 79 dL_prey_51 ⟨by decide, by decide⟩  (by decide) (fun _ => ?_) (fun h => absurd h (by decide))
          refine q_iload_n C 4 dL_prey_79 rfl ?_
          refine q_istore_n (lv' := [(3, .int (iI dr)), (5, .int (iI 0)), (0, .ref (adr w a)), (1, .ref (adr w b)), (2, .ref (adr w nn)), (4, .int (iI k))]) C dL_prey_80 (by decide) rfl ?_
          refine q_iinc (lv' := [(4, .int (iI (k + (-1)))), (3, .int (iI dr)), (5, .int (iI 0)), (0, .ref (adr w a)), (1, .ref (adr w b)), (2, .ref (adr w nn))]) C 5 dL_prey_81 rfl (by decide) rfl ?_
          refine q_goto C 5 dL_prey_84 (by decide) ?_
          refine q_lv (lv' := [(0, .ref (adr w a)), (1, .ref (adr w b)), (2, .ref (adr w nn)), (3, .int (iI dr)), (4, .int (iI (k + (-1))))]) [3, 4, 5, 1, 0] rfl ?_
          exact ih5 (k + (-1)) dr (⟨by omega, by omega, by first | exact PD_no hP (by unfold may; omega) | exact PD_in hP ⟨by omega, by omega⟩ (by unfold may; omega) (by omega) | exact PD_out hP (by omega)⟩) (by omega)
        · refine q_iconst C 1 dL_prey_42 ?_
          refine q_goto C 47 dL_prey_43 (by decide) ?_
          refine q_istore (lv' := [(5, .int (iI 1)), (0, .ref (adr w a)), (1, .ref (adr w b)), (2, .ref (adr w nn)), (3, .int (iI dr)), (4, .int (iI k))]) C dL_prey_47 (by decide) rfl ?_
          refine q_iload C 0 dL_prey_49 rfl ?_
          refine q_if_eq C 79 dL_prey_51 ⟨by decide, by decide⟩  (by decide) (fun h => absurd h (by decide)) (fun _ => ?_)
          refine q_iload_n C 4 dL_prey_54 rfl ?_
          refine q_if_lt C 74 dL_prey_55 ⟨by omega, by omega⟩  (by decide) (fun h55 => ?_) (fun h55 => ?_)
          · refine q_iload C 5 dL_prey_74 rfl ?_
            refine q_goto C 80 dL_prey_76 (by decide) ?_
            refine q_istore_n (lv' := [(3, .int (iI k)), (5, .int (iI 1)), (0, .ref (adr w a)), (1, .ref (adr w b)), (2, .ref (adr w nn)), (4, .int (iI k))]) C dL_prey_80 (by decide) rfl ?_
            refine q_iinc (lv' := [(4, .int (iI (k + (-1)))), (3, .int (iI k)), (5, .int (iI 1)), (0, .ref (adr w a)), (1, .ref (adr w b)), (2, .ref (adr w nn))]) C 5 dL_prey_81 rfl (by decide) rfl ?_
            refine q_goto C 5 dL_prey_84 (by decide) ?_
            refine q_lv (lv' := [(0, .ref (adr w a)), (1, .ref (adr w b)), (2, .ref (adr w nn)), (3, .int (iI k)), (4, .int (iI (k + (-1))))]) [3, 4, 5, 1, 0] rfl ?_
            exact ih5 (k + (-1)) k (⟨by omega, by omega, by first | exact PD_no hP (by unfold may; omega) | exact PD_in hP ⟨by omega, by omega⟩ (by unfold may; omega) (by omega) | exact PD_out hP (by omega)⟩) (by omega)
          · refine q_aload_n C 1 dL_prey_58 rfl ?_
            refine q_aload_n C 2 dL_prey_59 rfl ?_
            refine q_iload C 5 dL_prey_60 rfl ?_
            refine q_cI (q_runS (As := [.ref (adr w a), .ref (adr w b), .int (iI k)]) (rest := []) C (k_L_doorWorth (F := F) (r := r) l hLa hW hI hLb hL (d := k) ⟨by omega, by omega⟩) wd_371 wd_370 wd_12 wd_369 nd_L_doorWorth rfl (by decide) ⟨Nat.zero_le _, Nat.zero_le _⟩ rfl (Nat.le_of_ble_eq_true rfl) dL_prey_62) ?_
            rintro z F' ⟨rfl, rfl⟩
            have qd62 := dw_range (d := k) hI (by omega) (by omega)
            refine q_aload_n C 1 dL_prey_65 rfl ?_
            refine q_aload_n C 2 dL_prey_66 rfl ?_
            refine q_iload_n C 4 dL_prey_67 rfl ?_
            refine q_cI (q_runS (As := [.ref (adr w a), .ref (adr w b), .int (iI dr)]) (rest := [.int (iI (dw r k))]) C (k_L_doorWorth (F := F) (r := r) l hLa hW hI hLb hL (d := dr) ⟨by omega, by omega⟩) wd_371 wd_370 wd_12 wd_369 nd_L_doorWorth rfl (by decide) ⟨Nat.zero_le _, Nat.zero_le _⟩ rfl (Nat.le_of_ble_eq_true rfl) dL_prey_68) ?_
            rintro z F' ⟨rfl, rfl⟩
            have qd68 := dw_range (d := dr) hI (by omega) (by omega)
            refine q_icmp_lt C 79 dL_prey_71 ⟨by omega, by omega⟩ ⟨by omega, by omega⟩ (by decide) (fun h71 => ?_) (fun h71 => ?_)
            · refine q_iload_n C 4 dL_prey_79 rfl ?_
              refine q_istore_n (lv' := [(3, .int (iI dr)), (5, .int (iI 1)), (0, .ref (adr w a)), (1, .ref (adr w b)), (2, .ref (adr w nn)), (4, .int (iI k))]) C dL_prey_80 (by decide) rfl ?_
              refine q_iinc (lv' := [(4, .int (iI (k + (-1)))), (3, .int (iI dr)), (5, .int (iI 1)), (0, .ref (adr w a)), (1, .ref (adr w b)), (2, .ref (adr w nn))]) C 5 dL_prey_81 rfl (by decide) rfl ?_
              refine q_goto C 5 dL_prey_84 (by decide) ?_
              refine q_lv (lv' := [(0, .ref (adr w a)), (1, .ref (adr w b)), (2, .ref (adr w nn)), (3, .int (iI dr)), (4, .int (iI (k + (-1))))]) [3, 4, 5, 1, 0] rfl ?_
              exact ih5 (k + (-1)) dr (⟨by omega, by omega, by first | exact PD_no hP (by unfold may; omega) | exact PD_in hP ⟨by omega, by omega⟩ (by unfold may; omega) (by omega) | exact PD_out hP (by omega)⟩) (by omega)
            · refine q_iload C 5 dL_prey_74 rfl ?_
              refine q_goto C 80 dL_prey_76 (by decide) ?_
              refine q_istore_n (lv' := [(3, .int (iI k)), (5, .int (iI 1)), (0, .ref (adr w a)), (1, .ref (adr w b)), (2, .ref (adr w nn)), (4, .int (iI k))]) C dL_prey_80 (by decide) rfl ?_
              refine q_iinc (lv' := [(4, .int (iI (k + (-1)))), (3, .int (iI k)), (5, .int (iI 1)), (0, .ref (adr w a)), (1, .ref (adr w b)), (2, .ref (adr w nn))]) C 5 dL_prey_81 rfl (by decide) rfl ?_
              refine q_goto C 5 dL_prey_84 (by decide) ?_
              refine q_lv (lv' := [(0, .ref (adr w a)), (1, .ref (adr w b)), (2, .ref (adr w nn)), (3, .int (iI k)), (4, .int (iI (k + (-1))))]) [3, 4, 5, 1, 0] rfl ?_
              exact ih5 (k + (-1)) k (⟨by omega, by omega, by first | exact PD_no hP (by unfold may; omega) | exact PD_in hP ⟨by omega, by omega⟩ (by unfold may; omega) (by omega) | exact PD_out hP (by omega)⟩) (by omega)

set_option maxRecDepth 100000 in
set_option maxHeartbeats 4000000 in
theorem k_L_endLoans (l : Launch) {w : WP} {F : FF} {a b : Nat} {r : Rw} (hLa : LwP w a 40) (hW : TW F a r) (hI : Iv r) (hLb : LwP w b 16) (hB : ∀ j, 0 ≤ j → j < 16 → -1 ≤ F b j ∧ F b j < 16) {y z : Int} (hy : 0 ≤ y ∧ y < 16) (hz9 : inR z) : Con l yL_endLoans cL_endLoans 6 none 3 w [.ref (adr w a), .ref (adr w b), .int (iI y), .int (iI z)] F (QV w (fun F' => F' = elG F b y (if la r y = z then 1 else 0) 16)) := by
  refine Con.mk (lv := [(0, .ref (adr w a)), (1, .ref (adr w b)), (2, .int (iI y)), (3, .int (iI z))]) (by decide) (Nat.le_of_ble_eq_true rfl) rfl ?_
  intro pg ev s0 mi be me co C hz
  refine q_aload_n C 0 dL_endLoans_0 rfl ?_
  refine q_iload_n C 2 dL_endLoans_1 rfl ?_
  refine q_cI (q_runS (As := [.ref (adr w a), .int (iI y)]) (rest := []) C (k_L_last (F := F) (r := r) l hLa hW hI (y := y) ⟨by omega, by omega⟩) wd_362 wd_361 wd_12 wd_360 nd_L_last rfl (by decide) ⟨Nat.zero_le _, Nat.zero_le _⟩ rfl (Nat.le_of_ble_eq_true rfl) dL_endLoans_2) ?_
  rintro z F' ⟨rfl, rfl⟩
  have ql2 := la_range (l := y) hI (by omega) (by omega)
  refine q_iload_n C 3 dL_endLoans_5 rfl ?_
  refine q_icmp_ne C 13 dL_endLoans_6 ⟨by omega, by omega⟩ ⟨by omega, by omega⟩ (by decide) (fun h6 => ?_) (fun h6 => ?_)
  · refine q_iconst C 0 dL_endLoans_13 ?_
    refine q_istore (lv' := [(4, .int (iI 0)), (0, .ref (adr w a)), (1, .ref (adr w b)), (2, .int (iI y)), (3, .int (iI z))]) C dL_endLoans_14 (by decide) rfl ?_
    refine q_iconst C 0 dL_endLoans_16 ?_
    refine q_istore (lv' := [(5, .int (iI 0)), (4, .int (iI 0)), (0, .ref (adr w a)), (1, .ref (adr w b)), (2, .int (iI y)), (3, .int (iI z))]) C dL_endLoans_17 (by decide) rfl ?_
    refine q_lv (lv' := [(0, .ref (adr w a)), (1, .ref (adr w b)), (2, .int (iI y)), (4, .int (iI 0)), (5, .int (iI 0))]) [2, 3, 4, 1, 0] rfl ?_
    refine q_F (elG_0 (F := F) (b := b) (y := y) (s := 0)) ?_
    refine wf1 (P := fun (i : Int) => Wq pg l ev _ s0 mi _ be me co _ w _ _ _ 19 [(0, .ref (adr w a)), (1, .ref (adr w b)), (2, .int (iI y)), (4, .int (iI 0)), (5, .int (iI i))] [] (elG F b y 0 i)) (I := fun (i : Int) => 0 ≤ i ∧ i ≤ 16) (μ := fun (i : Int) => (16 - i).toNat) ?_ 0 (⟨by omega, by omega⟩)
    intro i hI' ih19
    (try dsimp only at hI'); (try dsimp only at ih19); (try dsimp only)
    obtain ⟨hi0, hi1⟩ := hI'
    refine q_iload C 4 dL_endLoans_19 rfl ?_
    refine q_bipush C 16 dL_endLoans_21 (by decide) ?_
    refine q_icmp_ge C 63 dL_endLoans_23 ⟨by omega, by omega⟩ ⟨by decide, by decide⟩ (by decide) (fun h23 => ?_) (fun h23 => ?_)
    · refine q_vret C dL_endLoans_63 ?_
      rw [show i = 16 by omega]; first | rw [if_pos (by omega)] | rw [if_neg (by omega)]
    · refine q_aload_n C 1 dL_endLoans_26 rfl ?_
      refine q_iload C 4 dL_endLoans_27 rfl ?_
      refine q_iload C 4 dL_endLoans_29 rfl ?_
      refine q_iload_n C 2 dL_endLoans_31 rfl ?_
      refine q_icmp_eq C 48 dL_endLoans_32 ⟨by omega, by omega⟩ ⟨by omega, by omega⟩ (by decide) (fun h32 => ?_) (fun h32 => ?_)
      · refine q_iconst C (-1) dL_endLoans_48 ?_
        refine q_goto C 56 dL_endLoans_49 (by decide) ?_
        refine q_iast9 C hLb ⟨by omega, by omega⟩ dL_endLoans_56 ?_
        refine q_iinc (lv' := [(5, .int (iI (i + 1))), (0, .ref (adr w a)), (1, .ref (adr w b)), (2, .int (iI y)), (4, .int (iI 0))]) C 4 dL_endLoans_57 rfl (by decide) rfl ?_
        refine q_goto C 19 dL_endLoans_60 (by decide) ?_
        first | refine q_F (elG_t hi0 (by omega)).symm ?_ | refine q_F (elG_f (by omega)).symm ?_
        refine q_lv (lv' := [(0, .ref (adr w a)), (1, .ref (adr w b)), (2, .int (iI y)), (4, .int (iI 0)), (5, .int (iI (i + 1)))]) [1, 2, 3, 4, 0] rfl ?_
        exact ih19 (i + 1) (⟨by omega, by omega⟩) (by omega)
      · refine q_aload_n C 1 dL_endLoans_35 rfl ?_
        refine q_iload C 4 dL_endLoans_36 rfl ?_
        refine q_iald9 C hLb ⟨by omega, by omega⟩ dL_endLoans_38 ?_
        rw [elG_i]
        have hbi := hB i hi0 (by omega)
        refine q_iload_n C 2 dL_endLoans_39 rfl ?_
        refine q_icmp_ne C 52 dL_endLoans_40 ⟨by omega, by omega⟩ ⟨by omega, by omega⟩ (by decide) (fun h40 => ?_) (fun h40 => ?_)
        · refine q_aload_n C 1 dL_endLoans_52 rfl ?_
          refine q_iload C 4 dL_endLoans_53 rfl ?_
          refine q_iald9 C hLb ⟨by omega, by omega⟩ dL_endLoans_55 ?_
          rw [elG_i]
          have hbi := hB i hi0 (by omega)
          refine q_iast9 C hLb ⟨by omega, by omega⟩ dL_endLoans_56 ?_
          refine q_iinc (lv' := [(5, .int (iI (i + 1))), (0, .ref (adr w a)), (1, .ref (adr w b)), (2, .int (iI y)), (4, .int (iI 0))]) C 4 dL_endLoans_57 rfl (by decide) rfl ?_
          refine q_goto C 19 dL_endLoans_60 (by decide) ?_
          first | refine q_F (elG_t hi0 (by omega)).symm ?_ | refine q_F (elG_f (by omega)).symm ?_
          refine q_lv (lv' := [(0, .ref (adr w a)), (1, .ref (adr w b)), (2, .int (iI y)), (4, .int (iI 0)), (5, .int (iI (i + 1)))]) [1, 2, 3, 4, 0] rfl ?_
          exact ih19 (i + 1) (⟨by omega, by omega⟩) (by omega)
        · refine q_iload C 3 dL_endLoans_43 rfl ?_
          refine q_if_ne C 52 dL_endLoans_45 ⟨by decide, by decide⟩  (by decide) (fun h => absurd h (by decide)) (fun _ => ?_)
          refine q_iconst C (-1) dL_endLoans_48 ?_
          refine q_goto C 56 dL_endLoans_49 (by decide) ?_
          refine q_iast9 C hLb ⟨by omega, by omega⟩ dL_endLoans_56 ?_
          refine q_iinc (lv' := [(5, .int (iI (i + 1))), (0, .ref (adr w a)), (1, .ref (adr w b)), (2, .int (iI y)), (4, .int (iI 0))]) C 4 dL_endLoans_57 rfl (by decide) rfl ?_
          refine q_goto C 19 dL_endLoans_60 (by decide) ?_
          first | refine q_F (elG_t hi0 (by omega)).symm ?_ | refine q_F (elG_f (by omega)).symm ?_
          refine q_lv (lv' := [(0, .ref (adr w a)), (1, .ref (adr w b)), (2, .int (iI y)), (4, .int (iI 0)), (5, .int (iI (i + 1)))]) [1, 2, 3, 4, 0] rfl ?_
          exact ih19 (i + 1) (⟨by omega, by omega⟩) (by omega)
  · refine q_iconst C 1 dL_endLoans_9 ?_
    refine q_goto C 14 dL_endLoans_10 (by decide) ?_
    refine q_istore (lv' := [(4, .int (iI 1)), (0, .ref (adr w a)), (1, .ref (adr w b)), (2, .int (iI y)), (3, .int (iI z))]) C dL_endLoans_14 (by decide) rfl ?_
    refine q_iconst C 0 dL_endLoans_16 ?_
    refine q_istore (lv' := [(5, .int (iI 0)), (4, .int (iI 1)), (0, .ref (adr w a)), (1, .ref (adr w b)), (2, .int (iI y)), (3, .int (iI z))]) C dL_endLoans_17 (by decide) rfl ?_
    refine q_lv (lv' := [(0, .ref (adr w a)), (1, .ref (adr w b)), (2, .int (iI y)), (4, .int (iI 1)), (5, .int (iI 0))]) [2, 3, 4, 1, 0] rfl ?_
    refine q_F (elG_0 (F := F) (b := b) (y := y) (s := 1)) ?_
    refine wf1 (P := fun (i : Int) => Wq pg l ev _ s0 mi _ be me co _ w _ _ _ 19 [(0, .ref (adr w a)), (1, .ref (adr w b)), (2, .int (iI y)), (4, .int (iI 1)), (5, .int (iI i))] [] (elG F b y 1 i)) (I := fun (i : Int) => 0 ≤ i ∧ i ≤ 16) (μ := fun (i : Int) => (16 - i).toNat) ?_ 0 (⟨by omega, by omega⟩)
    intro i hI' ih19
    (try dsimp only at hI'); (try dsimp only at ih19); (try dsimp only)
    obtain ⟨hi0, hi1⟩ := hI'
    refine q_iload C 4 dL_endLoans_19 rfl ?_
    refine q_bipush C 16 dL_endLoans_21 (by decide) ?_
    refine q_icmp_ge C 63 dL_endLoans_23 ⟨by omega, by omega⟩ ⟨by decide, by decide⟩ (by decide) (fun h23 => ?_) (fun h23 => ?_)
    · refine q_vret C dL_endLoans_63 ?_
      rw [show i = 16 by omega]; first | rw [if_pos (by omega)] | rw [if_neg (by omega)]
    · refine q_aload_n C 1 dL_endLoans_26 rfl ?_
      refine q_iload C 4 dL_endLoans_27 rfl ?_
      refine q_iload C 4 dL_endLoans_29 rfl ?_
      refine q_iload_n C 2 dL_endLoans_31 rfl ?_
      refine q_icmp_eq C 48 dL_endLoans_32 ⟨by omega, by omega⟩ ⟨by omega, by omega⟩ (by decide) (fun h32 => ?_) (fun h32 => ?_)
      · refine q_iconst C (-1) dL_endLoans_48 ?_
        refine q_goto C 56 dL_endLoans_49 (by decide) ?_
        refine q_iast9 C hLb ⟨by omega, by omega⟩ dL_endLoans_56 ?_
        refine q_iinc (lv' := [(5, .int (iI (i + 1))), (0, .ref (adr w a)), (1, .ref (adr w b)), (2, .int (iI y)), (4, .int (iI 1))]) C 4 dL_endLoans_57 rfl (by decide) rfl ?_
        refine q_goto C 19 dL_endLoans_60 (by decide) ?_
        first | refine q_F (elG_t hi0 (by omega)).symm ?_ | refine q_F (elG_f (by omega)).symm ?_
        refine q_lv (lv' := [(0, .ref (adr w a)), (1, .ref (adr w b)), (2, .int (iI y)), (4, .int (iI 1)), (5, .int (iI (i + 1)))]) [1, 2, 3, 4, 0] rfl ?_
        exact ih19 (i + 1) (⟨by omega, by omega⟩) (by omega)
      · refine q_aload_n C 1 dL_endLoans_35 rfl ?_
        refine q_iload C 4 dL_endLoans_36 rfl ?_
        refine q_iald9 C hLb ⟨by omega, by omega⟩ dL_endLoans_38 ?_
        rw [elG_i]
        have hbi := hB i hi0 (by omega)
        refine q_iload_n C 2 dL_endLoans_39 rfl ?_
        refine q_icmp_ne C 52 dL_endLoans_40 ⟨by omega, by omega⟩ ⟨by omega, by omega⟩ (by decide) (fun h40 => ?_) (fun h40 => ?_)
        · refine q_aload_n C 1 dL_endLoans_52 rfl ?_
          refine q_iload C 4 dL_endLoans_53 rfl ?_
          refine q_iald9 C hLb ⟨by omega, by omega⟩ dL_endLoans_55 ?_
          rw [elG_i]
          have hbi := hB i hi0 (by omega)
          refine q_iast9 C hLb ⟨by omega, by omega⟩ dL_endLoans_56 ?_
          refine q_iinc (lv' := [(5, .int (iI (i + 1))), (0, .ref (adr w a)), (1, .ref (adr w b)), (2, .int (iI y)), (4, .int (iI 1))]) C 4 dL_endLoans_57 rfl (by decide) rfl ?_
          refine q_goto C 19 dL_endLoans_60 (by decide) ?_
          first | refine q_F (elG_t hi0 (by omega)).symm ?_ | refine q_F (elG_f (by omega)).symm ?_
          refine q_lv (lv' := [(0, .ref (adr w a)), (1, .ref (adr w b)), (2, .int (iI y)), (4, .int (iI 1)), (5, .int (iI (i + 1)))]) [1, 2, 3, 4, 0] rfl ?_
          exact ih19 (i + 1) (⟨by omega, by omega⟩) (by omega)
        · refine q_iload C 3 dL_endLoans_43 rfl ?_
          refine q_if_ne C 52 dL_endLoans_45 ⟨by decide, by decide⟩  (by decide) (fun _ => ?_) (fun h => absurd h (by decide))
          refine q_aload_n C 1 dL_endLoans_52 rfl ?_
          refine q_iload C 4 dL_endLoans_53 rfl ?_
          refine q_iald9 C hLb ⟨by omega, by omega⟩ dL_endLoans_55 ?_
          rw [elG_i]
          have hbi := hB i hi0 (by omega)
          refine q_iast9 C hLb ⟨by omega, by omega⟩ dL_endLoans_56 ?_
          refine q_iinc (lv' := [(5, .int (iI (i + 1))), (0, .ref (adr w a)), (1, .ref (adr w b)), (2, .int (iI y)), (4, .int (iI 1))]) C 4 dL_endLoans_57 rfl (by decide) rfl ?_
          refine q_goto C 19 dL_endLoans_60 (by decide) ?_
          first | refine q_F (elG_t hi0 (by omega)).symm ?_ | refine q_F (elG_f (by omega)).symm ?_
          refine q_lv (lv' := [(0, .ref (adr w a)), (1, .ref (adr w b)), (2, .int (iI y)), (4, .int (iI 1)), (5, .int (iI (i + 1)))]) [1, 2, 3, 4, 0] rfl ?_
          exact ih19 (i + 1) (⟨by omega, by omega⟩) (by omega)

set_option maxRecDepth 100000 in
set_option maxHeartbeats 4000000 in
theorem k_L_leaves (l : Launch) {w : WP} {F : FF} {a : Nat} {r : Rw} (hLa : LwP w a 40) (hW : TW F a r) (hI : Iv r) {b : Nat} (hLb : LwP w b 16) (hL : TL F b r) (hab : a ≠ b) {x : Int} (hx : 0 ≤ x ∧ x < 40) (hh : home r x ≠ -1) : Con l yL_leaves cL_leaves 6 none 4 w [.ref (adr w a), .ref (adr w b), .int (iI x)] F (QV w (fun F' => TW F' a (rem r (home r x) (plc r x)) ∧ TL F' b (rem r (home r x) (plc r x)) ∧ ∀ k, k ≠ a → k ≠ b → F' k = F k)) := by
  refine Con.mk (lv := [(0, .ref (adr w a)), (1, .ref (adr w b)), (2, .int (iI x))]) (by decide) (Nat.le_of_ble_eq_true rfl) rfl ?_
  intro pg ev s0 mi be me co C hz
  have hcx := whv_c hI x
  have hfx := hW x hx.1 hx.2
  obtain ⟨y0, y1, q0, q1, hw9⟩ := home_at hI hh
  refine q_aload_n C 0 dL_leaves_0 rfl ?_
  refine q_iload_n C 2 dL_leaves_1 rfl ?_
  refine q_iald9 C hLa ⟨by omega, by omega⟩ dL_leaves_2 ?_
  refine q_bipush C 8 dL_leaves_3 (by decide) ?_
  refine q_idiv C dL_leaves_5 ⟨by omega, by omega⟩ ⟨by decide, by decide⟩ ?_
  refine q_top (z' := home r x) (by omega) ?_
  refine q_istore_n (lv' := [(3, .int (iI (home r x))), (0, .ref (adr w a)), (1, .ref (adr w b)), (2, .int (iI x))]) C dL_leaves_6 (by decide) rfl ?_
  refine q_aload_n C 1 dL_leaves_7 rfl ?_
  refine q_iload_n C 0 dL_leaves_8 rfl ?_
  refine q_cI (q_runS (As := [.ref (adr w a), .int (iI (home r x))]) (rest := []) C (k_L_last (F := F) (r := r) l hLa hW hI (y := home r x) ⟨by omega, by omega⟩) wd_362 wd_361 wd_12 wd_360 nd_L_last rfl (by decide) ⟨Nat.zero_le _, Nat.zero_le _⟩ rfl (Nat.le_of_ble_eq_true rfl) dL_leaves_9) ?_
  rintro z F' ⟨rfl, rfl⟩
  have ql9 := la_range (l := home r x) hI (by omega) (by omega)
  refine q_istore (lv' := [(4, .int (iI (la r (home r x)))), (3, .int (iI (home r x))), (0, .ref (adr w a)), (1, .ref (adr w b)), (2, .int (iI x))]) C dL_leaves_12 (by decide) rfl ?_
  refine q_iconst C 0 dL_leaves_14 ?_
  refine q_istore (lv' := [(5, .int (iI 0)), (4, .int (iI (la r (home r x)))), (3, .int (iI (home r x))), (0, .ref (adr w a)), (1, .ref (adr w b)), (2, .int (iI x))]) C dL_leaves_15 (by decide) rfl ?_
  refine q_lv (lv' := [(0, .ref (adr w a)), (1, .ref (adr w b)), (2, .int (iI x)), (3, .int (iI (home r x))), (4, .int (iI (la r (home r x)))), (5, .int (iI 0))]) [3, 4, 5, 2, 1, 0] rfl ?_
  refine q_F (lvF_0 (F := F) (a := a) (y := home r x) (q := F a x)) ?_
  refine wf1 (P := fun (i : Int) => Wq pg l ev _ s0 mi _ be me co _ w _ _ _ 17 [(0, .ref (adr w a)), (1, .ref (adr w b)), (2, .int (iI x)), (3, .int (iI (home r x))), (4, .int (iI (la r (home r x)))), (5, .int (iI i))] [] (lvF F a (home r x) (F a x) i)) (I := fun (i : Int) => 0 ≤ i ∧ i ≤ 40) (μ := fun (i : Int) => (40 - i).toNat) ?_ 0 (⟨by omega, by omega⟩)
  intro i hI' ih17
  (try dsimp only at hI'); (try dsimp only at ih17); (try dsimp only)
  obtain ⟨hi0, hi1⟩ := hI'
  refine q_iload C 5 dL_leaves_17 rfl ?_
  refine q_bipush C 40 dL_leaves_19 (by decide) ?_
  refine q_icmp_ge C 62 dL_leaves_21 ⟨by omega, by omega⟩ ⟨by decide, by decide⟩ (by decide) (fun h21 => ?_) (fun h21 => ?_)
  · refine q_aload_n C 0 dL_leaves_62 rfl ?_
    refine q_iload_n C 2 dL_leaves_63 rfl ?_
    refine q_iconst C (-1) dL_leaves_64 ?_
    refine q_iast9 C hLa ⟨by omega, by omega⟩ dL_leaves_65 ?_
    have hW2 := TW_lv hW hI hx hh (i := i) (by omega)
    have hI2 := rem_iv hI ⟨y0, y1⟩ ⟨q0, q1⟩
    have hL2 : TL (up (lvF F a (home r x) (F a x) i) a x (-1)) b r := hL.k (by rw [up_k (Ne.symm hab), lvF_k (Ne.symm hab)])
    have hB2 : ∀ j, 0 ≤ j → j < 16 → -1 ≤ (up (lvF F a (home r x) (F a x) i) a x (-1)) b j ∧ (up (lvF F a (home r x) (F a x) i) a x (-1)) b j < 16 := fun j j0 j1 => by
      have := hL2 j j0 j1
      have := hI.ld j0 j1
      omega
    refine q_aload_n C 0 dL_leaves_66 rfl ?_
    refine q_aload_n C 1 dL_leaves_67 rfl ?_
    refine q_iload_n C 3 dL_leaves_68 rfl ?_
    refine q_iload C 4 dL_leaves_69 rfl ?_
    refine q_cV (q_runS (As := [.ref (adr w a), .ref (adr w b), .int (iI (home r x)), .int (iI (la r (home r x)))]) (rest := []) C (k_L_endLoans (F := (up (lvF F a (home r x) (F a x) i) a x (-1))) (r := (rem r (home r x) (plc r x))) l hLa hW2 hI2 hLb (y := home r x) (z := la r (home r x)) hB2 ⟨by omega, by omega⟩ ⟨by omega, by omega⟩) wd_514 wd_513 wd_12 wd_512 nd_L_endLoans rfl (by decide) ⟨Nat.zero_le _, Nat.zero_le _⟩ rfl (Nat.le_of_ble_eq_true rfl) dL_leaves_71) ?_
    rintro G9 rfl
    refine q_vret C dL_leaves_74 ?_
    exact ⟨hW2.k (elG_k hab), TL_lv hL2 hI ⟨y0, y1⟩ ⟨q0, q1⟩, fun k k1 k2 => by rw [elG_k k2, up_k k1, lvF_k k1]⟩
  · have hf := hW i (by omega) (by omega)
    have hc := whv_c hI i
    have hg : lvF F a (home r x) (F a x) i a i = F a i := lvF_i
    refine q_aload_n C 0 dL_leaves_24 rfl ?_
    refine q_iload C 5 dL_leaves_25 rfl ?_
    refine q_dup2 C dL_leaves_27 rfl rfl ?_
    refine q_iald9 C hLa ⟨by omega, by omega⟩ dL_leaves_28 ?_
    rw [lvF_i]
    refine q_aload_n C 0 dL_leaves_29 rfl ?_
    refine q_iload C 5 dL_leaves_30 rfl ?_
    refine q_iload_n C 3 dL_leaves_32 rfl ?_
    refine q_cI (q_runS (As := [.ref (adr w a), .int (iI i), .int (iI (home r x))]) (rest := [.int (iI (F a i)), .int (iI i), .ref (adr w a)]) C (k_L_isOn (F := (lvF F a (home r x) (F a x) i)) l hLa (x := i) (y := home r x) ⟨by omega, by omega⟩ ⟨by omega, by omega⟩ ⟨by omega, by omega⟩) wd_294 wd_293 wd_12 wd_292 nd_L_isOn rfl (by decide) ⟨Nat.zero_le _, Nat.zero_le _⟩ rfl (Nat.le_of_ble_eq_true rfl) dL_leaves_33) ?_
    rintro z F' ⟨⟨rfl, hq33⟩ | ⟨rfl, hq33⟩, rfl⟩
    · refine q_if_eq C 53 dL_leaves_36 ⟨by decide, by decide⟩  (by decide) (fun h => absurd h (by decide)) (fun _ => ?_)
      refine q_aload_n C 0 dL_leaves_39 rfl ?_
      refine q_iload C 5 dL_leaves_40 rfl ?_
      refine q_iald9 C hLa ⟨by omega, by omega⟩ dL_leaves_42 ?_
      rw [lvF_i]
      refine q_aload_n C 0 dL_leaves_43 rfl ?_
      refine q_iload_n C 2 dL_leaves_44 rfl ?_
      refine q_iald9 C hLa ⟨by omega, by omega⟩ dL_leaves_45 ?_
      rw [lvF_x]
      refine q_icmp_le C 53 dL_leaves_46 ⟨by omega, by omega⟩ ⟨by omega, by omega⟩ (by decide) (fun h46 => ?_) (fun h46 => ?_)
      · refine q_iconst C 0 dL_leaves_53 ?_
        refine q_isub C dL_leaves_54 ?_
        refine q_iast9 C hLa ⟨by omega, by omega⟩ dL_leaves_55 ?_
        refine q_iinc (lv' := [(5, .int (iI (i + 1))), (0, .ref (adr w a)), (1, .ref (adr w b)), (2, .int (iI x)), (3, .int (iI (home r x))), (4, .int (iI (la r (home r x))))]) C 5 dL_leaves_56 rfl (by decide) rfl ?_
        refine q_goto C 17 dL_leaves_59 (by decide) ?_
        first | refine q_F (lvF_t hi0 (by omega)).symm ?_ | refine q_F (lvF_f (by omega)).symm ?_
        refine q_lv (lv' := [(0, .ref (adr w a)), (1, .ref (adr w b)), (2, .int (iI x)), (3, .int (iI (home r x))), (4, .int (iI (la r (home r x)))), (5, .int (iI (i + 1)))]) [1, 2, 3, 4, 5, 0] rfl ?_
        exact ih17 (i + 1) (⟨by omega, by omega⟩) (by omega)
      · refine q_iconst C 1 dL_leaves_49 ?_
        refine q_goto C 54 dL_leaves_50 (by decide) ?_
        refine q_isub C dL_leaves_54 ?_
        refine q_iast9 C hLa ⟨by omega, by omega⟩ dL_leaves_55 ?_
        refine q_iinc (lv' := [(5, .int (iI (i + 1))), (0, .ref (adr w a)), (1, .ref (adr w b)), (2, .int (iI x)), (3, .int (iI (home r x))), (4, .int (iI (la r (home r x))))]) C 5 dL_leaves_56 rfl (by decide) rfl ?_
        refine q_goto C 17 dL_leaves_59 (by decide) ?_
        first | refine q_F (lvF_t hi0 (by omega)).symm ?_ | refine q_F (lvF_f (by omega)).symm ?_
        refine q_lv (lv' := [(0, .ref (adr w a)), (1, .ref (adr w b)), (2, .int (iI x)), (3, .int (iI (home r x))), (4, .int (iI (la r (home r x)))), (5, .int (iI (i + 1)))]) [1, 2, 3, 4, 5, 0] rfl ?_
        exact ih17 (i + 1) (⟨by omega, by omega⟩) (by omega)
    · refine q_if_eq C 53 dL_leaves_36 ⟨by decide, by decide⟩  (by decide) (fun _ => ?_) (fun h => absurd h (by decide))
      refine q_iconst C 0 dL_leaves_53 ?_
      refine q_isub C dL_leaves_54 ?_
      refine q_iast9 C hLa ⟨by omega, by omega⟩ dL_leaves_55 ?_
      refine q_iinc (lv' := [(5, .int (iI (i + 1))), (0, .ref (adr w a)), (1, .ref (adr w b)), (2, .int (iI x)), (3, .int (iI (home r x))), (4, .int (iI (la r (home r x))))]) C 5 dL_leaves_56 rfl (by decide) rfl ?_
      refine q_goto C 17 dL_leaves_59 (by decide) ?_
      first | refine q_F (lvF_t hi0 (by omega)).symm ?_ | refine q_F (lvF_f (by omega)).symm ?_
      refine q_lv (lv' := [(0, .ref (adr w a)), (1, .ref (adr w b)), (2, .int (iI x)), (3, .int (iI (home r x))), (4, .int (iI (la r (home r x)))), (5, .int (iI (i + 1)))]) [1, 2, 3, 4, 5, 0] rfl ?_
      exact ih17 (i + 1) (⟨by omega, by omega⟩) (by omega)

set_option maxRecDepth 100000 in
set_option maxHeartbeats 4000000 in
theorem k_L_comes (l : Launch) {w : WP} {F : FF} {a : Nat} {r : Rw} (hLa : LwP w a 40) (hW : TW F a r) (hI : Iv r) {b : Nat} (hLb : LwP w b 16) (hL : TL F b r) (hab : a ≠ b) {x y p : Int} (hx : 0 ≤ x ∧ x < 40) (hh : home r x = -1) (hy : 0 ≤ y ∧ y < 16) (hp : 0 ≤ p ∧ p ≤ r y) (hs : r y < 6) : Con l yL_comes cL_comes 7 none 4 w [.ref (adr w a), .ref (adr w b), .int (iI x), .int (iI y), .int (iI p)] F (QV w (fun F' => TW F' a (ins r x y p) ∧ TL F' b (ins r x y p) ∧ ∀ k, k ≠ a → k ≠ b → F' k = F k)) := by
  refine Con.mk (lv := [(0, .ref (adr w a)), (1, .ref (adr w b)), (2, .int (iI x)), (3, .int (iI y)), (4, .int (iI p))]) (by decide) (Nat.le_of_ble_eq_true rfl) rfl ?_
  intro pg ev s0 mi be me co C hz
  refine q_aload_n C 0 dL_comes_0 rfl ?_
  refine q_iload_n C 3 dL_comes_1 rfl ?_
  refine q_cI (q_runS (As := [.ref (adr w a), .int (iI y)]) (rest := []) C (k_L_last (F := F) (r := r) l hLa hW hI (y := y) ⟨by omega, by omega⟩) wd_362 wd_361 wd_12 wd_360 nd_L_last rfl (by decide) ⟨Nat.zero_le _, Nat.zero_le _⟩ rfl (Nat.le_of_ble_eq_true rfl) dL_comes_2) ?_
  rintro z F' ⟨rfl, rfl⟩
  have ql2 := la_range (l := y) hI (by omega) (by omega)
  refine q_istore (lv' := [(5, .int (iI (la r y))), (0, .ref (adr w a)), (1, .ref (adr w b)), (2, .int (iI x)), (3, .int (iI y)), (4, .int (iI p))]) C dL_comes_5 (by decide) rfl ?_
  refine q_iconst C 0 dL_comes_7 ?_
  refine q_istore (lv' := [(6, .int (iI 0)), (5, .int (iI (la r y))), (0, .ref (adr w a)), (1, .ref (adr w b)), (2, .int (iI x)), (3, .int (iI y)), (4, .int (iI p))]) C dL_comes_8 (by decide) rfl ?_
  refine q_lv (lv' := [(0, .ref (adr w a)), (1, .ref (adr w b)), (2, .int (iI x)), (3, .int (iI y)), (4, .int (iI p)), (5, .int (iI (la r y))), (6, .int (iI 0))]) [2, 3, 4, 5, 6, 1, 0] rfl ?_
  refine q_F (cmF_0 (F := F) (a := a) (y := y) (q := p)) ?_
  refine wf1 (P := fun (i : Int) => Wq pg l ev _ s0 mi _ be me co _ w _ _ _ 10 [(0, .ref (adr w a)), (1, .ref (adr w b)), (2, .int (iI x)), (3, .int (iI y)), (4, .int (iI p)), (5, .int (iI (la r y))), (6, .int (iI i))] [] (cmF F a y p i)) (I := fun (i : Int) => 0 ≤ i ∧ i ≤ 40) (μ := fun (i : Int) => (40 - i).toNat) ?_ 0 (⟨by omega, by omega⟩)
  intro i hI' ih10
  (try dsimp only at hI'); (try dsimp only at ih10); (try dsimp only)
  obtain ⟨hi0, hi1⟩ := hI'
  refine q_iload C 6 dL_comes_10 rfl ?_
  refine q_bipush C 40 dL_comes_12 (by decide) ?_
  refine q_icmp_ge C 57 dL_comes_14 ⟨by omega, by omega⟩ ⟨by decide, by decide⟩ (by decide) (fun h14 => ?_) (fun h14 => ?_)
  · refine q_aload_n C 0 dL_comes_57 rfl ?_
    refine q_iload_n C 2 dL_comes_58 rfl ?_
    refine q_bipush C 8 dL_comes_59 (by decide) ?_
    refine q_iload_n C 3 dL_comes_61 rfl ?_
    refine q_imul C dL_comes_62 ?_
    refine q_iload C 4 dL_comes_63 rfl ?_
    refine q_iadd C dL_comes_65 ?_
    refine q_iast9 C hLa ⟨by omega, by omega⟩ dL_comes_66 ?_
    have hW2 := TW_cm hW hI hx hh hy hp hs (i := i) (by omega)
    have hI2 := ins_iv hI hx hh hy hp hs
    have hL2 : TL (up (cmF F a y p i) a x (8 * y + p)) b r := hL.k (by rw [up_k (Ne.symm hab), cmF_k (Ne.symm hab)])
    have hB2 : ∀ j, 0 ≤ j → j < 16 → -1 ≤ (up (cmF F a y p i) a x (8 * y + p)) b j ∧ (up (cmF F a y p i) a x (8 * y + p)) b j < 16 := fun j j0 j1 => by
      have := hL2 j j0 j1
      have := hI.ld j0 j1
      omega
    refine q_aload_n C 0 dL_comes_67 rfl ?_
    refine q_aload_n C 1 dL_comes_68 rfl ?_
    refine q_iload_n C 3 dL_comes_69 rfl ?_
    refine q_iload C 5 dL_comes_70 rfl ?_
    refine q_cV (q_runS (As := [.ref (adr w a), .ref (adr w b), .int (iI y), .int (iI (la r y))]) (rest := []) C (k_L_endLoans (F := (up (cmF F a y p i) a x (8 * y + p))) (r := (ins r x y p)) l hLa hW2 hI2 hLb (y := y) (z := la r y) hB2 ⟨by omega, by omega⟩ ⟨by omega, by omega⟩) wd_514 wd_513 wd_12 wd_512 nd_L_endLoans rfl (by decide) ⟨Nat.zero_le _, Nat.zero_le _⟩ rfl (Nat.le_of_ble_eq_true rfl) dL_comes_72) ?_
    rintro G9 rfl
    refine q_vret C dL_comes_75 ?_
    exact ⟨hW2.k (elG_k hab), TL_cm hL2 hI hx hh hy hp hs, fun k k1 k2 => by rw [elG_k k2, up_k k1, cmF_k k1]⟩
  · have hf := hW i (by omega) (by omega)
    have hc := whv_c hI i
    have hg : cmF F a y p i a i = F a i := cmF_i
    refine q_aload_n C 0 dL_comes_17 rfl ?_
    refine q_iload C 6 dL_comes_18 rfl ?_
    refine q_dup2 C dL_comes_20 rfl rfl ?_
    refine q_iald9 C hLa ⟨by omega, by omega⟩ dL_comes_21 ?_
    rw [cmF_i]
    refine q_aload_n C 0 dL_comes_22 rfl ?_
    refine q_iload C 6 dL_comes_23 rfl ?_
    refine q_iload_n C 3 dL_comes_25 rfl ?_
    refine q_cI (q_runS (As := [.ref (adr w a), .int (iI i), .int (iI y)]) (rest := [.int (iI (F a i)), .int (iI i), .ref (adr w a)]) C (k_L_isOn (F := (cmF F a y p i)) l hLa (x := i) (y := y) ⟨by omega, by omega⟩ ⟨by omega, by omega⟩ ⟨by omega, by omega⟩) wd_294 wd_293 wd_12 wd_292 nd_L_isOn rfl (by decide) ⟨Nat.zero_le _, Nat.zero_le _⟩ rfl (Nat.le_of_ble_eq_true rfl) dL_comes_26) ?_
    rintro z F' ⟨⟨rfl, hq26⟩ | ⟨rfl, hq26⟩, rfl⟩
    · refine q_if_eq C 48 dL_comes_29 ⟨by decide, by decide⟩  (by decide) (fun h => absurd h (by decide)) (fun _ => ?_)
      refine q_aload_n C 0 dL_comes_32 rfl ?_
      refine q_iload C 6 dL_comes_33 rfl ?_
      refine q_iald9 C hLa ⟨by omega, by omega⟩ dL_comes_35 ?_
      rw [cmF_i]
      refine q_bipush C 8 dL_comes_36 (by decide) ?_
      refine q_irem C dL_comes_38 ⟨by omega, by omega⟩ ⟨by decide, by decide⟩ ?_
      refine q_iload C 4 dL_comes_39 rfl ?_
      refine q_icmp_lt C 48 dL_comes_41 ⟨by omega, by omega⟩ ⟨by omega, by omega⟩ (by decide) (fun h41 => ?_) (fun h41 => ?_)
      · refine q_iconst C 0 dL_comes_48 ?_
        refine q_iadd C dL_comes_49 ?_
        refine q_iast9 C hLa ⟨by omega, by omega⟩ dL_comes_50 ?_
        refine q_iinc (lv' := [(6, .int (iI (i + 1))), (0, .ref (adr w a)), (1, .ref (adr w b)), (2, .int (iI x)), (3, .int (iI y)), (4, .int (iI p)), (5, .int (iI (la r y)))]) C 6 dL_comes_51 rfl (by decide) rfl ?_
        refine q_goto C 10 dL_comes_54 (by decide) ?_
        first | refine q_F (cmF_t hi0 (by omega)).symm ?_ | refine q_F (cmF_f (by omega)).symm ?_
        refine q_lv (lv' := [(0, .ref (adr w a)), (1, .ref (adr w b)), (2, .int (iI x)), (3, .int (iI y)), (4, .int (iI p)), (5, .int (iI (la r y))), (6, .int (iI (i + 1)))]) [1, 2, 3, 4, 5, 6, 0] rfl ?_
        exact ih10 (i + 1) (⟨by omega, by omega⟩) (by omega)
      · refine q_iconst C 1 dL_comes_44 ?_
        refine q_goto C 49 dL_comes_45 (by decide) ?_
        refine q_iadd C dL_comes_49 ?_
        refine q_iast9 C hLa ⟨by omega, by omega⟩ dL_comes_50 ?_
        refine q_iinc (lv' := [(6, .int (iI (i + 1))), (0, .ref (adr w a)), (1, .ref (adr w b)), (2, .int (iI x)), (3, .int (iI y)), (4, .int (iI p)), (5, .int (iI (la r y)))]) C 6 dL_comes_51 rfl (by decide) rfl ?_
        refine q_goto C 10 dL_comes_54 (by decide) ?_
        first | refine q_F (cmF_t hi0 (by omega)).symm ?_ | refine q_F (cmF_f (by omega)).symm ?_
        refine q_lv (lv' := [(0, .ref (adr w a)), (1, .ref (adr w b)), (2, .int (iI x)), (3, .int (iI y)), (4, .int (iI p)), (5, .int (iI (la r y))), (6, .int (iI (i + 1)))]) [1, 2, 3, 4, 5, 6, 0] rfl ?_
        exact ih10 (i + 1) (⟨by omega, by omega⟩) (by omega)
    · refine q_if_eq C 48 dL_comes_29 ⟨by decide, by decide⟩  (by decide) (fun _ => ?_) (fun h => absurd h (by decide))
      refine q_iconst C 0 dL_comes_48 ?_
      refine q_iadd C dL_comes_49 ?_
      refine q_iast9 C hLa ⟨by omega, by omega⟩ dL_comes_50 ?_
      refine q_iinc (lv' := [(6, .int (iI (i + 1))), (0, .ref (adr w a)), (1, .ref (adr w b)), (2, .int (iI x)), (3, .int (iI y)), (4, .int (iI p)), (5, .int (iI (la r y)))]) C 6 dL_comes_51 rfl (by decide) rfl ?_
      refine q_goto C 10 dL_comes_54 (by decide) ?_
      first | refine q_F (cmF_t hi0 (by omega)).symm ?_ | refine q_F (cmF_f (by omega)).symm ?_
      refine q_lv (lv' := [(0, .ref (adr w a)), (1, .ref (adr w b)), (2, .int (iI x)), (3, .int (iI y)), (4, .int (iI p)), (5, .int (iI (la r y))), (6, .int (iI (i + 1)))]) [1, 2, 3, 4, 5, 6, 0] rfl ?_
      exact ih10 (i + 1) (⟨by omega, by omega⟩) (by omega)

set_option maxRecDepth 100000 in
set_option maxHeartbeats 4000000 in
theorem k_L_copy (l : Launch) {w : WP} {F : FF} {a b N : Nat} (hLa : LwP w a N) (hLb : LwP w b N) : Con l yL_copy cL_copy 3 none 0 w [.ref (adr w a), .ref (adr w b)] F (QV w (fun F' => F' = cpF F a b)) := by
  refine Con.mk (lv := [(0, .ref (adr w a)), (1, .ref (adr w b))]) (by decide) (Nat.le_of_ble_eq_true rfl) rfl ?_
  intro pg ev s0 mi be me co C hz
  have hNa := hLa.2.2
  have hNb := hLb.2.2
  have hln := ln_lt a
  refine q_iconst C 0 dL_copy_0 ?_
  refine q_istore_n (lv' := [(2, .int (iI 0)), (0, .ref (adr w a)), (1, .ref (adr w b))]) C dL_copy_1 (by decide) rfl ?_
  refine q_lv (lv' := [(0, .ref (adr w a)), (1, .ref (adr w b)), (2, .int (iI 0))]) [1, 2, 0] rfl ?_
  refine wf2 (P := fun (i : Int) (G : FF) => Wq pg l ev _ s0 mi _ be me co _ w _ _ _ 2 [(0, .ref (adr w a)), (1, .ref (adr w b)), (2, .int (iI i))] [] G) (I := fun (i : Int) (G : FF) => 0 ≤ i ∧ i ≤ N ∧ G = fun k j => if k = b ∧ 0 ≤ j ∧ j < i then F a j else F k j) (μ := fun (i : Int) (G : FF) => (N - i).toNat) ?_ 0 F (⟨by omega, by omega, by funext k j; rw [if_neg (by omega)]⟩)
  intro i G hI' ih2
  (try dsimp only at hI'); (try dsimp only at ih2); (try dsimp only)
  obtain ⟨hi0, hi1, hG⟩ := hI'
  refine q_iload_n C 2 dL_copy_2 rfl ?_
  refine q_aload_n C 0 dL_copy_3 rfl ?_
  refine q_alen9 C hLa dL_copy_4 ?_
  refine q_icmp_ge C 20 dL_copy_5 ⟨by omega, by omega⟩ ⟨by omega, by omega⟩ (by decide) (fun h5 => ?_) (fun h5 => ?_)
  · refine q_vret C dL_copy_20 ?_
    rw [hG]; exact cp_end (hNa.trans hNb.symm) (by omega) hz
  · refine q_aload_n C 1 dL_copy_8 rfl ?_
    refine q_iload_n C 2 dL_copy_9 rfl ?_
    refine q_aload_n C 0 dL_copy_10 rfl ?_
    refine q_iload_n C 2 dL_copy_11 rfl ?_
    refine q_iald9 C hLa ⟨by omega, by omega⟩ dL_copy_12 ?_
    refine q_iast9 C hLb ⟨by omega, by omega⟩ dL_copy_13 ?_
    refine q_iinc (lv' := [(2, .int (iI (i + 1))), (0, .ref (adr w a)), (1, .ref (adr w b))]) C 2 dL_copy_14 rfl (by decide) rfl ?_
    refine q_goto C 2 dL_copy_17 (by decide) ?_
    refine q_lv (lv' := [(0, .ref (adr w a)), (1, .ref (adr w b)), (2, .int (iI (i + 1)))]) [1, 2, 0] rfl ?_
    exact ih2 (i + 1) (up G b i (G a i)) (⟨by omega, by omega, by rw [hG]; exact cp_step (hNa.trans hNb.symm) (by omega)⟩) (by omega)

set_option maxRecDepth 100000 in
set_option maxHeartbeats 4000000 in
theorem k_L_night (l : Launch) {w : WP} {F : FF} {a : Nat} {r : Rw} (hLa : LwP w a 40) (hW : TW F a r) (hI : Iv r) {b : Nat} (hLb : LwP w b 16) (hL : TL F b r) {nn : Nat} (hLn : LwP w nn 14) (hN : TN F nn r) {t : Nat} (hLt : LwP w t 40) (hT : TT F t r) (hd : a ≠ b ∧ a ≠ nn ∧ a ≠ t ∧ b ≠ nn ∧ b ≠ t ∧ nn ≠ t)  : Con l yL_night cL_night 6 (some .int) 7 w [.ref (adr w a), .ref (adr w b), .ref (adr w nn), .ref (adr w t)] F (QI w (fun z F' => z = rbs (ng r) - rbs r ∧ TA F' a b nn t (ng r) ∧ ∀ k, k ≠ a → k ≠ b → k ≠ nn → k ≠ t → F' k = F k)) := by
  refine Con.mk (lv := [(0, .ref (adr w a)), (1, .ref (adr w b)), (2, .ref (adr w nn)), (3, .ref (adr w t))]) (by decide) (Nat.le_of_ble_eq_true rfl) rfl ?_
  intro pg ev s0 mi be me co C hz
  refine q_aload_n C 0 dL_night_0 rfl ?_
  refine q_aload_n C 1 dL_night_1 rfl ?_
  refine q_aload_n C 2 dL_night_2 rfl ?_
  refine q_cI (q_runS (As := [.ref (adr w a), .ref (adr w b), .ref (adr w nn)]) (rest := []) C (k_L_prey (F := F) (r := r) l hLa hW hI hLb hL hLn hN) wd_493 wd_492 wd_12 wd_491 nd_L_prey rfl (by decide) ⟨Nat.zero_le _, Nat.zero_le _⟩ rfl (Nat.le_of_ble_eq_true rfl) dL_night_3) ?_
  rintro z F' ⟨rfl, rfl⟩
  have qpy := py_range hI
  refine q_istore (lv' := [(4, .int (iI (py r))), (0, .ref (adr w a)), (1, .ref (adr w b)), (2, .ref (adr w nn)), (3, .ref (adr w t))]) C dL_night_6 (by decide) rfl ?_
  refine q_iconst C 0 dL_night_8 ?_
  refine q_istore (lv' := [(5, .int (iI 0)), (4, .int (iI (py r))), (0, .ref (adr w a)), (1, .ref (adr w b)), (2, .ref (adr w nn)), (3, .ref (adr w t))]) C dL_night_9 (by decide) rfl ?_
  refine q_lv (lv' := [(0, .ref (adr w a)), (1, .ref (adr w b)), (2, .ref (adr w nn)), (3, .ref (adr w t)), (4, .int (iI (py r))), (5, .int (iI 0))]) [2, 3, 4, 5, 1, 0] rfl ?_
  refine q_F (wnF_0 (F := F) (n := nn)) ?_
  refine wf1 (P := fun (i : Int) => Wq pg l ev _ s0 mi _ be me co _ w _ _ _ 11 [(0, .ref (adr w a)), (1, .ref (adr w b)), (2, .ref (adr w nn)), (3, .ref (adr w t)), (4, .int (iI (py r))), (5, .int (iI i))] [] (wnF F nn i)) (I := fun (i : Int) => 0 ≤ i ∧ i ≤ 4) (μ := fun (i : Int) => (4 - i).toNat) ?_ 0 (⟨by omega, by omega⟩)
  intro i hI' ih11
  (try dsimp only at hI'); (try dsimp only at ih11); (try dsimp only)
  obtain ⟨hi0, hi1⟩ := hI'
  refine q_iload C 5 dL_night_11 rfl ?_
  refine q_iconst C 4 dL_night_13 ?_
  refine q_icmp_ge C 48 dL_night_14 ⟨by omega, by omega⟩ ⟨by decide, by decide⟩ (by decide) (fun h14 => ?_) (fun h14 => ?_)
  · refine q_aload_n C 2 dL_night_48 rfl ?_
    refine q_iconst C 3 dL_night_49 ?_
    refine q_dup2 C dL_night_50 rfl rfl ?_
    refine q_iald9 C hLn ⟨by omega, by omega⟩ dL_night_51 ?_
    rw [wnF_lo (by decide), hN.1.2.2.2.1]
    refine q_iconst C 1 dL_night_52 ?_
    refine q_iadd C dL_night_53 ?_
    refine q_iast9 C hLn ⟨by omega, by omega⟩ dL_night_54 ?_
    generalize hG1 : up (wnF F nn i) nn 3 ((r 179) + 1) = G1
    have hN1 : TN G1 nn (wn r) := by rw [← hG1]; exact TN_wn hN (by omega)
    have hk1 : ∀ k, k ≠ nn → G1 k = F k := fun k hk => by rw [← hG1, up_k hk, wnF_k hk]
    have hW1 : TW G1 a (wn r) := (TW_wn hW hI).k (hk1 a hd.2.1)
    have hL1 : TL G1 b (wn r) := (TL_wn hL).k (hk1 b hd.2.2.2.1)
    have hT1 : TT G1 t (wn r) := (TT_wn hT).k (hk1 t hd.2.2.2.2.2.symm)
    have hIw := (wn_iv hI).1
    refine q_iload C 4 dL_night_55 rfl ?_
    refine q_if_ge C 62 dL_night_57 ⟨by omega, by omega⟩  (by decide) (fun h57 => ?_) (fun h57 => ?_)
    · have hx9 := (night_x hI (by omega)).2.2
      have hcx := whv_c hIw (py r)
      have hfx := hW1 (py r) (by omega) (by omega)
      refine q_aload_n C 0 dL_night_62 rfl ?_
      refine q_iload C 4 dL_night_63 rfl ?_
      refine q_iald9 C hLa ⟨by omega, by omega⟩ dL_night_65 ?_
      refine q_bipush C 32 dL_night_66 (by decide) ?_
      refine q_idiv C dL_night_68 ⟨by omega, by omega⟩ ⟨by decide, by decide⟩ ?_
      refine q_top (z' := home (wn r) (py r) / 4) (by omega) ?_
      refine q_istore (lv' := [(5, .int (iI (home (wn r) (py r) / 4))), (0, .ref (adr w a)), (1, .ref (adr w b)), (2, .ref (adr w nn)), (3, .ref (adr w t)), (4, .int (iI (py r)))]) C dL_night_69 (by decide) rfl ?_
      refine q_aload_n C 1 dL_night_71 rfl ?_
      refine q_aload_n C 2 dL_night_72 rfl ?_
      refine q_iload C 5 dL_night_73 rfl ?_
      refine q_cV (q_runS (As := [.ref (adr w a), .ref (adr w b), .int (iI (py r))]) (rest := []) C (k_L_leaves (F := G1) (r := (wn r)) l hLa hW1 hIw hLb hL1 hd.1 (x := py r) ⟨by omega, by omega⟩ hx9) wd_520 wd_519 wd_12 wd_518 nd_L_leaves rfl (by decide) ⟨Nat.zero_le _, Nat.zero_le _⟩ rfl (Nat.le_of_ble_eq_true rfl) dL_night_75) ?_
      rintro G2 ⟨hWG2, hLG2, hfG2⟩
      refine q_aload_n C 4 dL_night_78 rfl ?_
      refine q_iload C 5 dL_night_79 rfl ?_
      refine q_dup2 C dL_night_81 rfl rfl ?_
      refine q_iald9 C hLt ⟨by omega, by omega⟩ dL_night_82 ?_
      rw [hfG2 t hd.2.2.1.symm hd.2.2.2.2.1.symm, hT1 (py r) (by omega) (by omega)]
      refine q_iconst C 1 dL_night_83 ?_
      refine q_iadd C dL_night_84 ?_
      refine q_iast9 C hLt ⟨by omega, by omega⟩ dL_night_85 ?_
      refine q_aload_n C 3 dL_night_86 rfl ?_
      refine q_bipush C 10 dL_night_87 (by decide) ?_
      refine q_iload C 0 dL_night_89 rfl ?_
      refine q_iadd C dL_night_91 ?_
      refine q_dup2 C dL_night_92 rfl rfl ?_
      refine q_iald9 C hLn ⟨by omega, by omega⟩ dL_night_93 ?_
      rw [up_k hd.2.2.2.2.2, hfG2 nn hd.2.1.symm hd.2.2.2.1.symm, (hN1.2 (home (wn r) (py r) / 4) (by omega) (by omega)).2]
      refine q_iconst C 1 dL_night_94 ?_
      refine q_iadd C dL_night_95 ?_
      refine q_iast9 C hLn ⟨by omega, by omega⟩ dL_night_96 ?_
      refine q_aload_n C 3 dL_night_97 rfl ?_
      refine q_bipush C 6 dL_night_98 (by decide) ?_
      refine q_iload C 0 dL_night_100 rfl ?_
      refine q_iadd C dL_night_102 ?_
      refine q_aload_n C 3 dL_night_103 rfl ?_
      refine q_iconst C 2 dL_night_104 ?_
      refine q_iald9 C hLn ⟨by omega, by omega⟩ dL_night_105 ?_
      rw [up_j (by omega), up_k hd.2.2.2.2.2, hfG2 nn hd.2.1.symm hd.2.2.2.1.symm, hN1.1.2.2.1]
      refine q_iast9 C hLn ⟨by omega, by omega⟩ dL_night_106 ?_
      refine q_iconst C 1 dL_night_107 ?_
      refine q_iret C dL_night_108 ?_
      refine ⟨(night_1 hI (by omega)).symm, ?_, fun k k1 k2 k3 k4 => ?_⟩
      · rw [night_ng hI (by omega)]
        exact TA_stl (F := F) hIw ⟨by omega, by omega⟩ hx9 ⟨hd.2.1, hd.2.2.1, hd.2.2.2.1, hd.2.2.2.2.1, hd.2.2.2.2.2⟩ hWG2 hLG2 (hN1.k (hfG2 nn hd.2.1.symm hd.2.2.2.1.symm)) (hT1.k (hfG2 t hd.2.2.1.symm hd.2.2.2.2.1.symm)) rfl
      · rw [up_k k3, up_k k3, up_k k4, hfG2 k k1 k2, hk1 k k3]
    · refine q_iconst C 0 dL_night_60 ?_
      refine q_iret C dL_night_61 ?_
      obtain ⟨e1, e2⟩ := night_0 hI (by omega); rw [e1]; exact ⟨e2, ⟨hW1, hL1, hN1, hT1, hIw⟩, fun k k1 k2 k3 k4 => hk1 k k3⟩
  · have hni := (hN.2 i hi0 (by omega)).1
    have qwt := hI.wt (d := i) hi0 (by omega)
    refine q_aload_n C 2 dL_night_17 rfl ?_
    refine q_bipush C 6 dL_night_18 (by decide) ?_
    refine q_iload C 5 dL_night_20 rfl ?_
    refine q_iadd C dL_night_22 ?_
    refine q_dup2 C dL_night_23 rfl rfl ?_
    refine q_iald9 C hLn ⟨by omega, by omega⟩ dL_night_24 ?_
    rw [wnF_i, (hN.2 i hi0 (by omega)).1]
    refine q_aload_n C 2 dL_night_25 rfl ?_
    refine q_bipush C 6 dL_night_26 (by decide) ?_
    refine q_iload C 5 dL_night_28 rfl ?_
    refine q_iadd C dL_night_30 ?_
    refine q_iald9 C hLn ⟨by omega, by omega⟩ dL_night_31 ?_
    rw [wnF_i, (hN.2 i hi0 (by omega)).1]
    refine q_if_le C 39 dL_night_32 ⟨by omega, by omega⟩  (by decide) (fun h32 => ?_) (fun h32 => ?_)
    · refine q_iconst C 0 dL_night_39 ?_
      refine q_isub C dL_night_40 ?_
      refine q_iast9 C hLn ⟨by omega, by omega⟩ dL_night_41 ?_
      refine q_iinc (lv' := [(5, .int (iI (i + 1))), (0, .ref (adr w a)), (1, .ref (adr w b)), (2, .ref (adr w nn)), (3, .ref (adr w t)), (4, .int (iI (py r)))]) C 5 dL_night_42 rfl (by decide) rfl ?_
      refine q_goto C 11 dL_night_45 (by decide) ?_
      refine q_F (wnF_s hi0 (by omega)).symm ?_
      refine q_lv (lv' := [(0, .ref (adr w a)), (1, .ref (adr w b)), (2, .ref (adr w nn)), (3, .ref (adr w t)), (4, .int (iI (py r))), (5, .int (iI (i + 1)))]) [1, 2, 3, 4, 5, 0] rfl ?_
      exact ih11 (i + 1) (⟨by omega, by omega⟩) (by omega)
    · refine q_iconst C 1 dL_night_35 ?_
      refine q_goto C 40 dL_night_36 (by decide) ?_
      refine q_isub C dL_night_40 ?_
      refine q_iast9 C hLn ⟨by omega, by omega⟩ dL_night_41 ?_
      refine q_iinc (lv' := [(5, .int (iI (i + 1))), (0, .ref (adr w a)), (1, .ref (adr w b)), (2, .ref (adr w nn)), (3, .ref (adr w t)), (4, .int (iI (py r)))]) C 5 dL_night_42 rfl (by decide) rfl ?_
      refine q_goto C 11 dL_night_45 (by decide) ?_
      refine q_F (wnF_s hi0 (by omega)).symm ?_
      refine q_lv (lv' := [(0, .ref (adr w a)), (1, .ref (adr w b)), (2, .ref (adr w nn)), (3, .ref (adr w t)), (4, .int (iI (py r))), (5, .int (iI (i + 1)))]) [1, 2, 3, 4, 5, 0] rfl ?_
      exact ih11 (i + 1) (⟨by omega, by omega⟩) (by omega)

set_option maxRecDepth 100000 in
set_option maxHeartbeats 4000000 in
theorem k_L_some (l : Launch) {w : WP} {F : FF} {a : Nat} {r : Rw} (hLa : LwP w a 40) (hW : TW F a r) (hI : Iv r) {f ib : Int} (hf9 : 0 ≤ f ∧ f < 40) (hib : ib = 0 ∨ ib = 1) : Con l yL_some cL_some 6 (some .int) 0 w [.ref (adr w a), .int (iI f), .int (iI ib)] F (QI w (fun z F' => ((z = -1 ∧ ∀ x, 0 ≤ x → x < 40 → ¬ (home r x = -1 ↔ ib = 1)) ∨ ((0 ≤ z ∧ z < 40) ∧ (home r z = -1 ↔ ib = 1))) ∧ F = F')) := by
  refine Con.mk (lv := [(0, .ref (adr w a)), (1, .int (iI f)), (2, .int (iI ib))]) (by decide) (Nat.le_of_ble_eq_true rfl) rfl ?_
  intro pg ev s0 mi be me co C hz
  refine q_iconst C (-1) dL_some_0 ?_
  refine q_istore_n (lv' := [(3, .int (iI (-1))), (0, .ref (adr w a)), (1, .int (iI f)), (2, .int (iI ib))]) C dL_some_1 (by decide) rfl ?_
  refine q_iconst C 0 dL_some_2 ?_
  refine q_istore (lv' := [(4, .int (iI 0)), (3, .int (iI (-1))), (0, .ref (adr w a)), (1, .int (iI f)), (2, .int (iI ib))]) C dL_some_3 (by decide) rfl ?_
  refine q_lv (lv' := [(0, .ref (adr w a)), (1, .int (iI f)), (2, .int (iI ib)), (3, .int (iI (-1))), (4, .int (iI 0))]) [2, 3, 4, 1, 0] rfl ?_
  refine wf2 (P := fun (k : Int) (fd : Int) => Wq pg l ev _ s0 mi _ be me co _ w _ _ _ 5 [(0, .ref (adr w a)), (1, .int (iI f)), (2, .int (iI ib)), (3, .int (iI fd)), (4, .int (iI k))] [] F) (I := fun (k : Int) (fd : Int) => 0 ≤ k ∧ k ≤ 40 ∧ SD r f ib k fd) (μ := fun (k : Int) (fd : Int) => (40 - k).toNat) ?_ 0 (-1) (⟨by omega, by omega, SD_0⟩)
  intro k fd hI' ih5
  (try dsimp only at hI'); (try dsimp only at ih5); (try dsimp only)
  obtain ⟨hi0, hi1, hS⟩ := hI'
  have hsd := SD_rng hS
  refine q_iload C 4 dL_some_5 rfl ?_
  refine q_bipush C 40 dL_some_7 (by decide) ?_
  refine q_icmp_ge C 54 dL_some_9 ⟨by omega, by omega⟩ ⟨by decide, by decide⟩ (by decide) (fun h9 => ?_) (fun h9 => ?_)
  · refine q_iload_n C 3 dL_some_54 rfl ?_
    refine q_iret C dL_some_55 ?_
    exact ⟨SD_end hS hf9 (by omega), rfl⟩
  · refine q_iload_n C 3 dL_some_12 rfl ?_
    refine q_if_ge C 54 dL_some_13 ⟨by omega, by omega⟩  (by decide) (fun h13 => ?_) (fun h13 => ?_)
    · refine q_iload_n C 3 dL_some_54 rfl ?_
      refine q_iret C dL_some_55 ?_
      exact ⟨SD_end hS hf9 (by omega), rfl⟩
    · refine q_iload_n C 1 dL_some_16 rfl ?_
      refine q_iload C 4 dL_some_17 rfl ?_
      refine q_iadd C dL_some_19 ?_
      refine q_bipush C 40 dL_some_20 (by decide) ?_
      refine q_irem C dL_some_22 ⟨by omega, by omega⟩ ⟨by decide, by decide⟩ ?_
      refine q_istore (lv' := [(5, .int (iI ((f + k) % 40))), (0, .ref (adr w a)), (1, .int (iI f)), (2, .int (iI ib)), (3, .int (iI fd)), (4, .int (iI k))]) C dL_some_23 (by decide) rfl ?_
      have hf := hW ((f + k) % 40) (by omega) (by omega)
      have hc := whv_c hI ((f + k) % 40)
      refine q_aload_n C 1 dL_some_25 rfl ?_
      refine q_iload C 0 dL_some_26 rfl ?_
      refine q_iald9 C hLa ⟨by omega, by omega⟩ dL_some_28 ?_
      refine q_if_ge C 36 dL_some_29 ⟨by omega, by omega⟩  (by decide) (fun h29 => ?_) (fun h29 => ?_)
      · refine q_iconst C 0 dL_some_36 ?_
        refine q_iload_n C 3 dL_some_37 rfl ?_
        refine q_icmp_ne C 46 dL_some_38 ⟨by decide, by decide⟩ ⟨by omega, by omega⟩ (by decide) (fun h38 => ?_) (fun h38 => ?_)
        · refine q_iload_n C 4 dL_some_46 rfl ?_
          refine q_istore_n (lv' := [(3, .int (iI fd)), (5, .int (iI ((f + k) % 40))), (0, .ref (adr w a)), (1, .int (iI f)), (2, .int (iI ib)), (4, .int (iI k))]) C dL_some_47 (by decide) rfl ?_
          refine q_iinc (lv' := [(4, .int (iI (k + 1))), (3, .int (iI fd)), (5, .int (iI ((f + k) % 40))), (0, .ref (adr w a)), (1, .int (iI f)), (2, .int (iI ib))]) C 5 dL_some_48 rfl (by decide) rfl ?_
          refine q_goto C 5 dL_some_51 (by decide) ?_
          refine q_lv (lv' := [(0, .ref (adr w a)), (1, .int (iI f)), (2, .int (iI ib)), (3, .int (iI fd)), (4, .int (iI (k + 1)))]) [3, 4, 5, 1, 0] rfl ?_
          exact ih5 (k + 1) fd (⟨by omega, by omega, by first | exact SD_in ⟨by omega, by omega⟩ (by omega) | exact SD_no hS (by omega) (by omega)⟩) (by omega)
        · refine q_iload C 0 dL_some_41 rfl ?_
          refine q_goto C 47 dL_some_43 (by decide) ?_
          refine q_istore_n (lv' := [(3, .int (iI ((f + k) % 40))), (5, .int (iI ((f + k) % 40))), (0, .ref (adr w a)), (1, .int (iI f)), (2, .int (iI ib)), (4, .int (iI k))]) C dL_some_47 (by decide) rfl ?_
          refine q_iinc (lv' := [(4, .int (iI (k + 1))), (3, .int (iI ((f + k) % 40))), (5, .int (iI ((f + k) % 40))), (0, .ref (adr w a)), (1, .int (iI f)), (2, .int (iI ib))]) C 5 dL_some_48 rfl (by decide) rfl ?_
          refine q_goto C 5 dL_some_51 (by decide) ?_
          refine q_lv (lv' := [(0, .ref (adr w a)), (1, .int (iI f)), (2, .int (iI ib)), (3, .int (iI ((f + k) % 40))), (4, .int (iI (k + 1)))]) [3, 4, 5, 1, 0] rfl ?_
          exact ih5 (k + 1) ((f + k) % 40) (⟨by omega, by omega, by first | exact SD_in ⟨by omega, by omega⟩ (by omega) | exact SD_no hS (by omega) (by omega)⟩) (by omega)
      · refine q_iconst C 1 dL_some_32 ?_
        refine q_goto C 37 dL_some_33 (by decide) ?_
        refine q_iload_n C 3 dL_some_37 rfl ?_
        refine q_icmp_ne C 46 dL_some_38 ⟨by decide, by decide⟩ ⟨by omega, by omega⟩ (by decide) (fun h38 => ?_) (fun h38 => ?_)
        · refine q_iload_n C 4 dL_some_46 rfl ?_
          refine q_istore_n (lv' := [(3, .int (iI fd)), (5, .int (iI ((f + k) % 40))), (0, .ref (adr w a)), (1, .int (iI f)), (2, .int (iI ib)), (4, .int (iI k))]) C dL_some_47 (by decide) rfl ?_
          refine q_iinc (lv' := [(4, .int (iI (k + 1))), (3, .int (iI fd)), (5, .int (iI ((f + k) % 40))), (0, .ref (adr w a)), (1, .int (iI f)), (2, .int (iI ib))]) C 5 dL_some_48 rfl (by decide) rfl ?_
          refine q_goto C 5 dL_some_51 (by decide) ?_
          refine q_lv (lv' := [(0, .ref (adr w a)), (1, .int (iI f)), (2, .int (iI ib)), (3, .int (iI fd)), (4, .int (iI (k + 1)))]) [3, 4, 5, 1, 0] rfl ?_
          exact ih5 (k + 1) fd (⟨by omega, by omega, by first | exact SD_in ⟨by omega, by omega⟩ (by omega) | exact SD_no hS (by omega) (by omega)⟩) (by omega)
        · refine q_iload C 0 dL_some_41 rfl ?_
          refine q_goto C 47 dL_some_43 (by decide) ?_
          refine q_istore_n (lv' := [(3, .int (iI ((f + k) % 40))), (5, .int (iI ((f + k) % 40))), (0, .ref (adr w a)), (1, .int (iI f)), (2, .int (iI ib)), (4, .int (iI k))]) C dL_some_47 (by decide) rfl ?_
          refine q_iinc (lv' := [(4, .int (iI (k + 1))), (3, .int (iI ((f + k) % 40))), (5, .int (iI ((f + k) % 40))), (0, .ref (adr w a)), (1, .int (iI f)), (2, .int (iI ib))]) C 5 dL_some_48 rfl (by decide) rfl ?_
          refine q_goto C 5 dL_some_51 (by decide) ?_
          refine q_lv (lv' := [(0, .ref (adr w a)), (1, .int (iI f)), (2, .int (iI ib)), (3, .int (iI ((f + k) % 40))), (4, .int (iI (k + 1)))]) [3, 4, 5, 1, 0] rfl ?_
          exact ih5 (k + 1) ((f + k) % 40) (⟨by omega, by omega, by first | exact SD_in ⟨by omega, by omega⟩ (by omega) | exact SD_no hS (by omega) (by omega)⟩) (by omega)

set_option maxRecDepth 100000 in
set_option maxHeartbeats 4000000 in
theorem k_L_isFree (l : Launch) {w : WP} {F : FF} {a : Nat} {r : Rw} (hLa : LwP w a 40) (hW : TW F a r) (hI : Iv r) {b : Nat} (hLb : LwP w b 16) (hL : TL F b r) {y : Int} (hy : 0 ≤ y ∧ y < 16) : Con l yL_isFree cL_isFree 5 (some .boolean) 2 w [.ref (adr w a), .ref (adr w b), .int (iI y)] F (QI w (fun z F' => (z = 1 ∧ fr9 r y ∨ z = 0 ∧ ¬ fr9 r y) ∧ F = F')) := by
  refine Con.mk (lv := [(0, .ref (adr w a)), (1, .ref (adr w b)), (2, .int (iI y))]) (by decide) (Nat.le_of_ble_eq_true rfl) rfl ?_
  intro pg ev s0 mi be me co C hz
  refine q_aload_n C 0 dL_isFree_0 rfl ?_
  refine q_iload_n C 2 dL_isFree_1 rfl ?_
  refine q_cI (q_runS (As := [.ref (adr w a), .int (iI y)]) (rest := []) C (k_L_many (F := F) (r := r) l hLa hW hI (y := y) ⟨by omega, by omega⟩) wd_350 wd_349 wd_12 wd_348 nd_L_many rfl (by decide) ⟨Nat.zero_le _, Nat.zero_le _⟩ rfl (Nat.le_of_ble_eq_true rfl) dL_isFree_2) ?_
  rintro z F' ⟨rfl, rfl⟩
  have qs2 := hI.sz (l := y) (by omega) (by omega)
  refine q_if_le C 18 dL_isFree_5 ⟨by omega, by omega⟩  (by decide) (fun h5 => ?_) (fun h5 => ?_)
  · refine q_iconst C 0 dL_isFree_18 ?_
    refine q_istore_n (lv' := [(3, .int (iI 0)), (0, .ref (adr w a)), (1, .ref (adr w b)), (2, .int (iI y))]) C dL_isFree_19 (by decide) rfl ?_
    refine q_iconst C 0 dL_isFree_20 ?_
    refine q_istore (lv' := [(4, .int (iI 0)), (3, .int (iI 0)), (0, .ref (adr w a)), (1, .ref (adr w b)), (2, .int (iI y))]) C dL_isFree_21 (by decide) rfl ?_
    refine q_lv (lv' := [(0, .ref (adr w a)), (1, .ref (adr w b)), (2, .int (iI y)), (3, .int (iI 0)), (4, .int (iI 0))]) [2, 3, 4, 1, 0] rfl ?_
    refine wf2 (P := fun (k : Int) (is : Int) => Wq pg l ev _ s0 mi _ be me co _ w _ _ _ 23 [(0, .ref (adr w a)), (1, .ref (adr w b)), (2, .int (iI y)), (3, .int (iI is)), (4, .int (iI k))] [] F) (I := fun (k : Int) (is : Int) => 0 ≤ k ∧ k ≤ 16 ∧ FRk r y k is) (μ := fun (k : Int) (is : Int) => (16 - k).toNat) ?_ 0 0 (⟨by omega, by omega, by first | exact FRk_1 (by omega) (by omega) | exact FRk_0 (by unfold fr9; omega)⟩)
    intro k is hI' ih23
    (try dsimp only at hI'); (try dsimp only at ih23); (try dsimp only)
    obtain ⟨hi0, hi1, hK⟩ := hI'
    have hkr := FRk_rng hK
    refine q_iload C 4 dL_isFree_23 rfl ?_
    refine q_bipush C 16 dL_isFree_25 (by decide) ?_
    refine q_icmp_ge C 54 dL_isFree_27 ⟨by omega, by omega⟩ ⟨by decide, by decide⟩ (by decide) (fun h27 => ?_) (fun h27 => ?_)
    · refine q_iload_n C 3 dL_isFree_54 rfl ?_
      refine q_zret C dL_isFree_55 (by omega) ?_
      exact ⟨FRk_end hK (by omega), rfl⟩
    · refine q_iload_n C 3 dL_isFree_30 rfl ?_
      refine q_if_eq C 46 dL_isFree_31 ⟨by omega, by omega⟩  (by decide) (fun h31 => ?_) (fun h31 => ?_)
      · refine q_iconst C 0 dL_isFree_46 ?_
        refine q_istore_n (lv' := [(3, .int (iI 0)), (0, .ref (adr w a)), (1, .ref (adr w b)), (2, .int (iI y)), (4, .int (iI k))]) C dL_isFree_47 (by decide) rfl ?_
        refine q_iinc (lv' := [(4, .int (iI (k + 1))), (3, .int (iI 0)), (0, .ref (adr w a)), (1, .ref (adr w b)), (2, .int (iI y))]) C 4 dL_isFree_48 rfl (by decide) rfl ?_
        refine q_goto C 23 dL_isFree_51 (by decide) ?_
        refine q_lv (lv' := [(0, .ref (adr w a)), (1, .ref (adr w b)), (2, .int (iI y)), (3, .int (iI 0)), (4, .int (iI (k + 1)))]) [2, 3, 4, 1, 0] rfl ?_
        exact ih23 (k + 1) 0 (⟨by omega, by omega, by first | exact FRk_in hK (by omega) (by omega) | exact FRk_out hK hi0 (by omega) (by omega)⟩) (by omega)
      · have qlk := hI.ld (l := k) hi0 (by omega)
        refine q_aload_n C 1 dL_isFree_34 rfl ?_
        refine q_iload C 4 dL_isFree_35 rfl ?_
        refine q_iald9 C hLb ⟨by omega, by omega⟩ dL_isFree_37 ?_
        rw [show F b k = r (112 + k) - 1 from hL k (by omega) (by omega)]
        refine q_iload_n C 2 dL_isFree_38 rfl ?_
        refine q_icmp_eq C 46 dL_isFree_39 ⟨by omega, by omega⟩ ⟨by omega, by omega⟩ (by decide) (fun h39 => ?_) (fun h39 => ?_)
        · refine q_iconst C 0 dL_isFree_46 ?_
          refine q_istore_n (lv' := [(3, .int (iI 0)), (0, .ref (adr w a)), (1, .ref (adr w b)), (2, .int (iI y)), (4, .int (iI k))]) C dL_isFree_47 (by decide) rfl ?_
          refine q_iinc (lv' := [(4, .int (iI (k + 1))), (3, .int (iI 0)), (0, .ref (adr w a)), (1, .ref (adr w b)), (2, .int (iI y))]) C 4 dL_isFree_48 rfl (by decide) rfl ?_
          refine q_goto C 23 dL_isFree_51 (by decide) ?_
          refine q_lv (lv' := [(0, .ref (adr w a)), (1, .ref (adr w b)), (2, .int (iI y)), (3, .int (iI 0)), (4, .int (iI (k + 1)))]) [2, 3, 4, 1, 0] rfl ?_
          exact ih23 (k + 1) 0 (⟨by omega, by omega, by first | exact FRk_in hK (by omega) (by omega) | exact FRk_out hK hi0 (by omega) (by omega)⟩) (by omega)
        · refine q_iconst C 1 dL_isFree_42 ?_
          refine q_goto C 47 dL_isFree_43 (by decide) ?_
          refine q_istore_n (lv' := [(3, .int (iI 1)), (0, .ref (adr w a)), (1, .ref (adr w b)), (2, .int (iI y)), (4, .int (iI k))]) C dL_isFree_47 (by decide) rfl ?_
          refine q_iinc (lv' := [(4, .int (iI (k + 1))), (3, .int (iI 1)), (0, .ref (adr w a)), (1, .ref (adr w b)), (2, .int (iI y))]) C 4 dL_isFree_48 rfl (by decide) rfl ?_
          refine q_goto C 23 dL_isFree_51 (by decide) ?_
          refine q_lv (lv' := [(0, .ref (adr w a)), (1, .ref (adr w b)), (2, .int (iI y)), (3, .int (iI 1)), (4, .int (iI (k + 1)))]) [2, 3, 4, 1, 0] rfl ?_
          exact ih23 (k + 1) 1 (⟨by omega, by omega, by first | exact FRk_in hK (by omega) (by omega) | exact FRk_out hK hi0 (by omega) (by omega)⟩) (by omega)
  · have qld := hI.ld hy.1 hy.2
    refine q_aload_n C 1 dL_isFree_8 rfl ?_
    refine q_iload_n C 2 dL_isFree_9 rfl ?_
    refine q_iald9 C hLb ⟨by omega, by omega⟩ dL_isFree_10 ?_
    rw [show F b y = r (112 + y) - 1 from hL y (by omega) (by omega)]
    refine q_if_ge C 18 dL_isFree_11 ⟨by omega, by omega⟩  (by decide) (fun h11 => ?_) (fun h11 => ?_)
    · refine q_iconst C 0 dL_isFree_18 ?_
      refine q_istore_n (lv' := [(3, .int (iI 0)), (0, .ref (adr w a)), (1, .ref (adr w b)), (2, .int (iI y))]) C dL_isFree_19 (by decide) rfl ?_
      refine q_iconst C 0 dL_isFree_20 ?_
      refine q_istore (lv' := [(4, .int (iI 0)), (3, .int (iI 0)), (0, .ref (adr w a)), (1, .ref (adr w b)), (2, .int (iI y))]) C dL_isFree_21 (by decide) rfl ?_
      refine q_lv (lv' := [(0, .ref (adr w a)), (1, .ref (adr w b)), (2, .int (iI y)), (3, .int (iI 0)), (4, .int (iI 0))]) [2, 3, 4, 1, 0] rfl ?_
      refine wf2 (P := fun (k : Int) (is : Int) => Wq pg l ev _ s0 mi _ be me co _ w _ _ _ 23 [(0, .ref (adr w a)), (1, .ref (adr w b)), (2, .int (iI y)), (3, .int (iI is)), (4, .int (iI k))] [] F) (I := fun (k : Int) (is : Int) => 0 ≤ k ∧ k ≤ 16 ∧ FRk r y k is) (μ := fun (k : Int) (is : Int) => (16 - k).toNat) ?_ 0 0 (⟨by omega, by omega, by first | exact FRk_1 (by omega) (by omega) | exact FRk_0 (by unfold fr9; omega)⟩)
      intro k is hI' ih23
      (try dsimp only at hI'); (try dsimp only at ih23); (try dsimp only)
      obtain ⟨hi0, hi1, hK⟩ := hI'
      have hkr := FRk_rng hK
      refine q_iload C 4 dL_isFree_23 rfl ?_
      refine q_bipush C 16 dL_isFree_25 (by decide) ?_
      refine q_icmp_ge C 54 dL_isFree_27 ⟨by omega, by omega⟩ ⟨by decide, by decide⟩ (by decide) (fun h27 => ?_) (fun h27 => ?_)
      · refine q_iload_n C 3 dL_isFree_54 rfl ?_
        refine q_zret C dL_isFree_55 (by omega) ?_
        exact ⟨FRk_end hK (by omega), rfl⟩
      · refine q_iload_n C 3 dL_isFree_30 rfl ?_
        refine q_if_eq C 46 dL_isFree_31 ⟨by omega, by omega⟩  (by decide) (fun h31 => ?_) (fun h31 => ?_)
        · refine q_iconst C 0 dL_isFree_46 ?_
          refine q_istore_n (lv' := [(3, .int (iI 0)), (0, .ref (adr w a)), (1, .ref (adr w b)), (2, .int (iI y)), (4, .int (iI k))]) C dL_isFree_47 (by decide) rfl ?_
          refine q_iinc (lv' := [(4, .int (iI (k + 1))), (3, .int (iI 0)), (0, .ref (adr w a)), (1, .ref (adr w b)), (2, .int (iI y))]) C 4 dL_isFree_48 rfl (by decide) rfl ?_
          refine q_goto C 23 dL_isFree_51 (by decide) ?_
          refine q_lv (lv' := [(0, .ref (adr w a)), (1, .ref (adr w b)), (2, .int (iI y)), (3, .int (iI 0)), (4, .int (iI (k + 1)))]) [2, 3, 4, 1, 0] rfl ?_
          exact ih23 (k + 1) 0 (⟨by omega, by omega, by first | exact FRk_in hK (by omega) (by omega) | exact FRk_out hK hi0 (by omega) (by omega)⟩) (by omega)
        · have qlk := hI.ld (l := k) hi0 (by omega)
          refine q_aload_n C 1 dL_isFree_34 rfl ?_
          refine q_iload C 4 dL_isFree_35 rfl ?_
          refine q_iald9 C hLb ⟨by omega, by omega⟩ dL_isFree_37 ?_
          rw [show F b k = r (112 + k) - 1 from hL k (by omega) (by omega)]
          refine q_iload_n C 2 dL_isFree_38 rfl ?_
          refine q_icmp_eq C 46 dL_isFree_39 ⟨by omega, by omega⟩ ⟨by omega, by omega⟩ (by decide) (fun h39 => ?_) (fun h39 => ?_)
          · refine q_iconst C 0 dL_isFree_46 ?_
            refine q_istore_n (lv' := [(3, .int (iI 0)), (0, .ref (adr w a)), (1, .ref (adr w b)), (2, .int (iI y)), (4, .int (iI k))]) C dL_isFree_47 (by decide) rfl ?_
            refine q_iinc (lv' := [(4, .int (iI (k + 1))), (3, .int (iI 0)), (0, .ref (adr w a)), (1, .ref (adr w b)), (2, .int (iI y))]) C 4 dL_isFree_48 rfl (by decide) rfl ?_
            refine q_goto C 23 dL_isFree_51 (by decide) ?_
            refine q_lv (lv' := [(0, .ref (adr w a)), (1, .ref (adr w b)), (2, .int (iI y)), (3, .int (iI 0)), (4, .int (iI (k + 1)))]) [2, 3, 4, 1, 0] rfl ?_
            exact ih23 (k + 1) 0 (⟨by omega, by omega, by first | exact FRk_in hK (by omega) (by omega) | exact FRk_out hK hi0 (by omega) (by omega)⟩) (by omega)
          · refine q_iconst C 1 dL_isFree_42 ?_
            refine q_goto C 47 dL_isFree_43 (by decide) ?_
            refine q_istore_n (lv' := [(3, .int (iI 1)), (0, .ref (adr w a)), (1, .ref (adr w b)), (2, .int (iI y)), (4, .int (iI k))]) C dL_isFree_47 (by decide) rfl ?_
            refine q_iinc (lv' := [(4, .int (iI (k + 1))), (3, .int (iI 1)), (0, .ref (adr w a)), (1, .ref (adr w b)), (2, .int (iI y))]) C 4 dL_isFree_48 rfl (by decide) rfl ?_
            refine q_goto C 23 dL_isFree_51 (by decide) ?_
            refine q_lv (lv' := [(0, .ref (adr w a)), (1, .ref (adr w b)), (2, .int (iI y)), (3, .int (iI 1)), (4, .int (iI (k + 1)))]) [2, 3, 4, 1, 0] rfl ?_
            exact ih23 (k + 1) 1 (⟨by omega, by omega, by first | exact FRk_in hK (by omega) (by omega) | exact FRk_out hK hi0 (by omega) (by omega)⟩) (by omega)
    · refine q_iconst C 1 dL_isFree_14 ?_
      refine q_goto C 19 dL_isFree_15 (by decide) ?_
      refine q_istore_n (lv' := [(3, .int (iI 1)), (0, .ref (adr w a)), (1, .ref (adr w b)), (2, .int (iI y))]) C dL_isFree_19 (by decide) rfl ?_
      refine q_iconst C 0 dL_isFree_20 ?_
      refine q_istore (lv' := [(4, .int (iI 0)), (3, .int (iI 1)), (0, .ref (adr w a)), (1, .ref (adr w b)), (2, .int (iI y))]) C dL_isFree_21 (by decide) rfl ?_
      refine q_lv (lv' := [(0, .ref (adr w a)), (1, .ref (adr w b)), (2, .int (iI y)), (3, .int (iI 1)), (4, .int (iI 0))]) [2, 3, 4, 1, 0] rfl ?_
      refine wf2 (P := fun (k : Int) (is : Int) => Wq pg l ev _ s0 mi _ be me co _ w _ _ _ 23 [(0, .ref (adr w a)), (1, .ref (adr w b)), (2, .int (iI y)), (3, .int (iI is)), (4, .int (iI k))] [] F) (I := fun (k : Int) (is : Int) => 0 ≤ k ∧ k ≤ 16 ∧ FRk r y k is) (μ := fun (k : Int) (is : Int) => (16 - k).toNat) ?_ 0 1 (⟨by omega, by omega, by first | exact FRk_1 (by omega) (by omega) | exact FRk_0 (by unfold fr9; omega)⟩)
      intro k is hI' ih23
      (try dsimp only at hI'); (try dsimp only at ih23); (try dsimp only)
      obtain ⟨hi0, hi1, hK⟩ := hI'
      have hkr := FRk_rng hK
      refine q_iload C 4 dL_isFree_23 rfl ?_
      refine q_bipush C 16 dL_isFree_25 (by decide) ?_
      refine q_icmp_ge C 54 dL_isFree_27 ⟨by omega, by omega⟩ ⟨by decide, by decide⟩ (by decide) (fun h27 => ?_) (fun h27 => ?_)
      · refine q_iload_n C 3 dL_isFree_54 rfl ?_
        refine q_zret C dL_isFree_55 (by omega) ?_
        exact ⟨FRk_end hK (by omega), rfl⟩
      · refine q_iload_n C 3 dL_isFree_30 rfl ?_
        refine q_if_eq C 46 dL_isFree_31 ⟨by omega, by omega⟩  (by decide) (fun h31 => ?_) (fun h31 => ?_)
        · refine q_iconst C 0 dL_isFree_46 ?_
          refine q_istore_n (lv' := [(3, .int (iI 0)), (0, .ref (adr w a)), (1, .ref (adr w b)), (2, .int (iI y)), (4, .int (iI k))]) C dL_isFree_47 (by decide) rfl ?_
          refine q_iinc (lv' := [(4, .int (iI (k + 1))), (3, .int (iI 0)), (0, .ref (adr w a)), (1, .ref (adr w b)), (2, .int (iI y))]) C 4 dL_isFree_48 rfl (by decide) rfl ?_
          refine q_goto C 23 dL_isFree_51 (by decide) ?_
          refine q_lv (lv' := [(0, .ref (adr w a)), (1, .ref (adr w b)), (2, .int (iI y)), (3, .int (iI 0)), (4, .int (iI (k + 1)))]) [2, 3, 4, 1, 0] rfl ?_
          exact ih23 (k + 1) 0 (⟨by omega, by omega, by first | exact FRk_in hK (by omega) (by omega) | exact FRk_out hK hi0 (by omega) (by omega)⟩) (by omega)
        · have qlk := hI.ld (l := k) hi0 (by omega)
          refine q_aload_n C 1 dL_isFree_34 rfl ?_
          refine q_iload C 4 dL_isFree_35 rfl ?_
          refine q_iald9 C hLb ⟨by omega, by omega⟩ dL_isFree_37 ?_
          rw [show F b k = r (112 + k) - 1 from hL k (by omega) (by omega)]
          refine q_iload_n C 2 dL_isFree_38 rfl ?_
          refine q_icmp_eq C 46 dL_isFree_39 ⟨by omega, by omega⟩ ⟨by omega, by omega⟩ (by decide) (fun h39 => ?_) (fun h39 => ?_)
          · refine q_iconst C 0 dL_isFree_46 ?_
            refine q_istore_n (lv' := [(3, .int (iI 0)), (0, .ref (adr w a)), (1, .ref (adr w b)), (2, .int (iI y)), (4, .int (iI k))]) C dL_isFree_47 (by decide) rfl ?_
            refine q_iinc (lv' := [(4, .int (iI (k + 1))), (3, .int (iI 0)), (0, .ref (adr w a)), (1, .ref (adr w b)), (2, .int (iI y))]) C 4 dL_isFree_48 rfl (by decide) rfl ?_
            refine q_goto C 23 dL_isFree_51 (by decide) ?_
            refine q_lv (lv' := [(0, .ref (adr w a)), (1, .ref (adr w b)), (2, .int (iI y)), (3, .int (iI 0)), (4, .int (iI (k + 1)))]) [2, 3, 4, 1, 0] rfl ?_
            exact ih23 (k + 1) 0 (⟨by omega, by omega, by first | exact FRk_in hK (by omega) (by omega) | exact FRk_out hK hi0 (by omega) (by omega)⟩) (by omega)
          · refine q_iconst C 1 dL_isFree_42 ?_
            refine q_goto C 47 dL_isFree_43 (by decide) ?_
            refine q_istore_n (lv' := [(3, .int (iI 1)), (0, .ref (adr w a)), (1, .ref (adr w b)), (2, .int (iI y)), (4, .int (iI k))]) C dL_isFree_47 (by decide) rfl ?_
            refine q_iinc (lv' := [(4, .int (iI (k + 1))), (3, .int (iI 1)), (0, .ref (adr w a)), (1, .ref (adr w b)), (2, .int (iI y))]) C 4 dL_isFree_48 rfl (by decide) rfl ?_
            refine q_goto C 23 dL_isFree_51 (by decide) ?_
            refine q_lv (lv' := [(0, .ref (adr w a)), (1, .ref (adr w b)), (2, .int (iI y)), (3, .int (iI 1)), (4, .int (iI (k + 1)))]) [2, 3, 4, 1, 0] rfl ?_
            exact ih23 (k + 1) 1 (⟨by omega, by omega, by first | exact FRk_in hK (by omega) (by omega) | exact FRk_out hK hi0 (by omega) (by omega)⟩) (by omega)

set_option maxRecDepth 100000 in
set_option maxHeartbeats 4000000 in
theorem k_L_freeLine (l : Launch) {w : WP} {F : FF} {a : Nat} {r : Rw} (hLa : LwP w a 40) (hW : TW F a r) (hI : Iv r) {b : Nat} (hLb : LwP w b 16) (hL : TL F b r) {f d o : Int} (hf9 : 0 ≤ f ∧ f < 16) (hd : 0 ≤ d ∧ d < 4) (ho : o = 0 ∨ o = 1) : Con l yL_freeLine cL_freeLine 8 (some .int) 3 w [.ref (adr w a), .ref (adr w b), .int (iI f), .int (iI d), .int (iI o)] F (QI w (fun z F' => (z = -1 ∨ ((0 ≤ z ∧ z < 16) ∧ fr9 r z ∧ (z / 4 = d ↔ o = 1))) ∧ F = F')) := by
  refine Con.mk (lv := [(0, .ref (adr w a)), (1, .ref (adr w b)), (2, .int (iI f)), (3, .int (iI d)), (4, .int (iI o))]) (by decide) (Nat.le_of_ble_eq_true rfl) rfl ?_
  intro pg ev s0 mi be me co C hz
  refine q_iconst C (-1) dL_freeLine_0 ?_
  refine q_istore (lv' := [(5, .int (iI (-1))), (0, .ref (adr w a)), (1, .ref (adr w b)), (2, .int (iI f)), (3, .int (iI d)), (4, .int (iI o))]) C dL_freeLine_1 (by decide) rfl ?_
  refine q_iconst C 0 dL_freeLine_3 ?_
  refine q_istore (lv' := [(6, .int (iI 0)), (5, .int (iI (-1))), (0, .ref (adr w a)), (1, .ref (adr w b)), (2, .int (iI f)), (3, .int (iI d)), (4, .int (iI o))]) C dL_freeLine_4 (by decide) rfl ?_
  refine q_lv (lv' := [(0, .ref (adr w a)), (1, .ref (adr w b)), (2, .int (iI f)), (3, .int (iI d)), (4, .int (iI o)), (5, .int (iI (-1))), (6, .int (iI 0))]) [2, 3, 4, 5, 6, 1, 0] rfl ?_
  refine wf2 (P := fun (k : Int) (fd : Int) => Wq pg l ev _ s0 mi _ be me co _ w _ _ _ 6 [(0, .ref (adr w a)), (1, .ref (adr w b)), (2, .int (iI f)), (3, .int (iI d)), (4, .int (iI o)), (5, .int (iI fd)), (6, .int (iI k))] [] F) (I := fun (k : Int) (fd : Int) => 0 ≤ k ∧ k ≤ 16 ∧ (fd = -1 ∨ ((0 ≤ fd ∧ fd < 16) ∧ fr9 r fd ∧ (fd / 4 = d ↔ o = 1)))) (μ := fun (k : Int) (fd : Int) => (16 - k).toNat) ?_ 0 (-1) (⟨by omega, by omega, Or.inl rfl⟩)
  intro k fd hI' ih6
  (try dsimp only at hI'); (try dsimp only at ih6); (try dsimp only)
  obtain ⟨hi0, hi1, hK⟩ := hI'
  have hkr : -1 ≤ fd ∧ fd < 16 := by rcases hK with q | q <;> omega
  refine q_iload C 6 dL_freeLine_6 rfl ?_
  refine q_bipush C 16 dL_freeLine_8 (by decide) ?_
  refine q_icmp_ge C 70 dL_freeLine_10 ⟨by omega, by omega⟩ ⟨by decide, by decide⟩ (by decide) (fun h10 => ?_) (fun h10 => ?_)
  · refine q_iload C 5 dL_freeLine_70 rfl ?_
    refine q_iret C dL_freeLine_72 ?_
    exact ⟨hK, rfl⟩
  · refine q_iload C 5 dL_freeLine_13 rfl ?_
    refine q_if_ge C 70 dL_freeLine_15 ⟨by omega, by omega⟩  (by decide) (fun h15 => ?_) (fun h15 => ?_)
    · refine q_iload C 5 dL_freeLine_70 rfl ?_
      refine q_iret C dL_freeLine_72 ?_
      exact ⟨hK, rfl⟩
    · refine q_iload_n C 2 dL_freeLine_18 rfl ?_
      refine q_iload C 6 dL_freeLine_19 rfl ?_
      refine q_iadd C dL_freeLine_21 ?_
      refine q_bipush C 16 dL_freeLine_22 (by decide) ?_
      refine q_irem C dL_freeLine_24 ⟨by omega, by omega⟩ ⟨by decide, by decide⟩ ?_
      refine q_istore (lv' := [(7, .int (iI ((f + k) % 16))), (0, .ref (adr w a)), (1, .ref (adr w b)), (2, .int (iI f)), (3, .int (iI d)), (4, .int (iI o)), (5, .int (iI fd)), (6, .int (iI k))]) C dL_freeLine_25 (by decide) rfl ?_
      refine q_iload C 0 dL_freeLine_27 rfl ?_
      refine q_iconst C 4 dL_freeLine_29 ?_
      refine q_idiv C dL_freeLine_30 ⟨by omega, by omega⟩ ⟨by decide, by decide⟩ ?_
      refine q_iload_n C 4 dL_freeLine_31 rfl ?_
      refine q_icmp_ne C 39 dL_freeLine_32 ⟨by omega, by omega⟩ ⟨by omega, by omega⟩ (by decide) (fun h32 => ?_) (fun h32 => ?_)
      · refine q_iconst C 0 dL_freeLine_39 ?_
        refine q_iload C 5 dL_freeLine_40 rfl ?_
        refine q_icmp_ne C 60 dL_freeLine_42 ⟨by decide, by decide⟩ ⟨by omega, by omega⟩ (by decide) (fun h42 => ?_) (fun h42 => ?_)
        · refine q_iload C 6 dL_freeLine_60 rfl ?_
          refine q_istore (lv' := [(5, .int (iI fd)), (7, .int (iI ((f + k) % 16))), (0, .ref (adr w a)), (1, .ref (adr w b)), (2, .int (iI f)), (3, .int (iI d)), (4, .int (iI o)), (6, .int (iI k))]) C dL_freeLine_62 (by decide) rfl ?_
          refine q_iinc (lv' := [(6, .int (iI (k + 1))), (5, .int (iI fd)), (7, .int (iI ((f + k) % 16))), (0, .ref (adr w a)), (1, .ref (adr w b)), (2, .int (iI f)), (3, .int (iI d)), (4, .int (iI o))]) C 7 dL_freeLine_64 rfl (by decide) rfl ?_
          refine q_goto C 6 dL_freeLine_67 (by decide) ?_
          refine q_lv (lv' := [(0, .ref (adr w a)), (1, .ref (adr w b)), (2, .int (iI f)), (3, .int (iI d)), (4, .int (iI o)), (5, .int (iI fd)), (6, .int (iI (k + 1)))]) [3, 4, 5, 6, 7, 1, 0] rfl ?_
          exact ih6 (k + 1) fd (⟨by omega, by omega, by first | exact hK | exact Or.inr ⟨⟨by omega, by omega⟩, by assumption, by omega⟩⟩) (by omega)
        · refine q_aload_n C 1 dL_freeLine_45 rfl ?_
          refine q_aload_n C 2 dL_freeLine_46 rfl ?_
          refine q_iload C 0 dL_freeLine_47 rfl ?_
          refine q_cI (q_runS (As := [.ref (adr w a), .ref (adr w b), .int (iI ((f + k) % 16))]) (rest := []) C (k_L_isFree (F := F) (r := r) l hLa hW hI hLb hL (y := (f + k) % 16) ⟨by omega, by omega⟩) wd_649 wd_648 wd_12 wd_647 nd_L_isFree rfl (by decide) ⟨Nat.zero_le _, Nat.zero_le _⟩ rfl (Nat.le_of_ble_eq_true rfl) dL_freeLine_49) ?_
          rintro z F' ⟨⟨rfl, hfr49⟩ | ⟨rfl, hfr49⟩, rfl⟩
          · refine q_if_eq C 60 dL_freeLine_52 ⟨by decide, by decide⟩  (by decide) (fun h => absurd h (by decide)) (fun _ => ?_)
            refine q_iload C 0 dL_freeLine_55 rfl ?_
            refine q_goto C 62 dL_freeLine_57 (by decide) ?_
            refine q_istore (lv' := [(5, .int (iI ((f + k) % 16))), (7, .int (iI ((f + k) % 16))), (0, .ref (adr w a)), (1, .ref (adr w b)), (2, .int (iI f)), (3, .int (iI d)), (4, .int (iI o)), (6, .int (iI k))]) C dL_freeLine_62 (by decide) rfl ?_
            refine q_iinc (lv' := [(6, .int (iI (k + 1))), (5, .int (iI ((f + k) % 16))), (7, .int (iI ((f + k) % 16))), (0, .ref (adr w a)), (1, .ref (adr w b)), (2, .int (iI f)), (3, .int (iI d)), (4, .int (iI o))]) C 7 dL_freeLine_64 rfl (by decide) rfl ?_
            refine q_goto C 6 dL_freeLine_67 (by decide) ?_
            refine q_lv (lv' := [(0, .ref (adr w a)), (1, .ref (adr w b)), (2, .int (iI f)), (3, .int (iI d)), (4, .int (iI o)), (5, .int (iI ((f + k) % 16))), (6, .int (iI (k + 1)))]) [3, 4, 5, 6, 7, 1, 0] rfl ?_
            exact ih6 (k + 1) ((f + k) % 16) (⟨by omega, by omega, by first | exact hK | exact Or.inr ⟨⟨by omega, by omega⟩, by assumption, by omega⟩⟩) (by omega)
          · refine q_if_eq C 60 dL_freeLine_52 ⟨by decide, by decide⟩  (by decide) (fun _ => ?_) (fun h => absurd h (by decide))
            refine q_iload C 6 dL_freeLine_60 rfl ?_
            refine q_istore (lv' := [(5, .int (iI fd)), (7, .int (iI ((f + k) % 16))), (0, .ref (adr w a)), (1, .ref (adr w b)), (2, .int (iI f)), (3, .int (iI d)), (4, .int (iI o)), (6, .int (iI k))]) C dL_freeLine_62 (by decide) rfl ?_
            refine q_iinc (lv' := [(6, .int (iI (k + 1))), (5, .int (iI fd)), (7, .int (iI ((f + k) % 16))), (0, .ref (adr w a)), (1, .ref (adr w b)), (2, .int (iI f)), (3, .int (iI d)), (4, .int (iI o))]) C 7 dL_freeLine_64 rfl (by decide) rfl ?_
            refine q_goto C 6 dL_freeLine_67 (by decide) ?_
            refine q_lv (lv' := [(0, .ref (adr w a)), (1, .ref (adr w b)), (2, .int (iI f)), (3, .int (iI d)), (4, .int (iI o)), (5, .int (iI fd)), (6, .int (iI (k + 1)))]) [3, 4, 5, 6, 7, 1, 0] rfl ?_
            exact ih6 (k + 1) fd (⟨by omega, by omega, by first | exact hK | exact Or.inr ⟨⟨by omega, by omega⟩, by assumption, by omega⟩⟩) (by omega)
      · refine q_iconst C 1 dL_freeLine_35 ?_
        refine q_goto C 40 dL_freeLine_36 (by decide) ?_
        refine q_iload C 5 dL_freeLine_40 rfl ?_
        refine q_icmp_ne C 60 dL_freeLine_42 ⟨by decide, by decide⟩ ⟨by omega, by omega⟩ (by decide) (fun h42 => ?_) (fun h42 => ?_)
        · refine q_iload C 6 dL_freeLine_60 rfl ?_
          refine q_istore (lv' := [(5, .int (iI fd)), (7, .int (iI ((f + k) % 16))), (0, .ref (adr w a)), (1, .ref (adr w b)), (2, .int (iI f)), (3, .int (iI d)), (4, .int (iI o)), (6, .int (iI k))]) C dL_freeLine_62 (by decide) rfl ?_
          refine q_iinc (lv' := [(6, .int (iI (k + 1))), (5, .int (iI fd)), (7, .int (iI ((f + k) % 16))), (0, .ref (adr w a)), (1, .ref (adr w b)), (2, .int (iI f)), (3, .int (iI d)), (4, .int (iI o))]) C 7 dL_freeLine_64 rfl (by decide) rfl ?_
          refine q_goto C 6 dL_freeLine_67 (by decide) ?_
          refine q_lv (lv' := [(0, .ref (adr w a)), (1, .ref (adr w b)), (2, .int (iI f)), (3, .int (iI d)), (4, .int (iI o)), (5, .int (iI fd)), (6, .int (iI (k + 1)))]) [3, 4, 5, 6, 7, 1, 0] rfl ?_
          exact ih6 (k + 1) fd (⟨by omega, by omega, by first | exact hK | exact Or.inr ⟨⟨by omega, by omega⟩, by assumption, by omega⟩⟩) (by omega)
        · refine q_aload_n C 1 dL_freeLine_45 rfl ?_
          refine q_aload_n C 2 dL_freeLine_46 rfl ?_
          refine q_iload C 0 dL_freeLine_47 rfl ?_
          refine q_cI (q_runS (As := [.ref (adr w a), .ref (adr w b), .int (iI ((f + k) % 16))]) (rest := []) C (k_L_isFree (F := F) (r := r) l hLa hW hI hLb hL (y := (f + k) % 16) ⟨by omega, by omega⟩) wd_649 wd_648 wd_12 wd_647 nd_L_isFree rfl (by decide) ⟨Nat.zero_le _, Nat.zero_le _⟩ rfl (Nat.le_of_ble_eq_true rfl) dL_freeLine_49) ?_
          rintro z F' ⟨⟨rfl, hfr49⟩ | ⟨rfl, hfr49⟩, rfl⟩
          · refine q_if_eq C 60 dL_freeLine_52 ⟨by decide, by decide⟩  (by decide) (fun h => absurd h (by decide)) (fun _ => ?_)
            refine q_iload C 0 dL_freeLine_55 rfl ?_
            refine q_goto C 62 dL_freeLine_57 (by decide) ?_
            refine q_istore (lv' := [(5, .int (iI ((f + k) % 16))), (7, .int (iI ((f + k) % 16))), (0, .ref (adr w a)), (1, .ref (adr w b)), (2, .int (iI f)), (3, .int (iI d)), (4, .int (iI o)), (6, .int (iI k))]) C dL_freeLine_62 (by decide) rfl ?_
            refine q_iinc (lv' := [(6, .int (iI (k + 1))), (5, .int (iI ((f + k) % 16))), (7, .int (iI ((f + k) % 16))), (0, .ref (adr w a)), (1, .ref (adr w b)), (2, .int (iI f)), (3, .int (iI d)), (4, .int (iI o))]) C 7 dL_freeLine_64 rfl (by decide) rfl ?_
            refine q_goto C 6 dL_freeLine_67 (by decide) ?_
            refine q_lv (lv' := [(0, .ref (adr w a)), (1, .ref (adr w b)), (2, .int (iI f)), (3, .int (iI d)), (4, .int (iI o)), (5, .int (iI ((f + k) % 16))), (6, .int (iI (k + 1)))]) [3, 4, 5, 6, 7, 1, 0] rfl ?_
            exact ih6 (k + 1) ((f + k) % 16) (⟨by omega, by omega, by first | exact hK | exact Or.inr ⟨⟨by omega, by omega⟩, by assumption, by omega⟩⟩) (by omega)
          · refine q_if_eq C 60 dL_freeLine_52 ⟨by decide, by decide⟩  (by decide) (fun _ => ?_) (fun h => absurd h (by decide))
            refine q_iload C 6 dL_freeLine_60 rfl ?_
            refine q_istore (lv' := [(5, .int (iI fd)), (7, .int (iI ((f + k) % 16))), (0, .ref (adr w a)), (1, .ref (adr w b)), (2, .int (iI f)), (3, .int (iI d)), (4, .int (iI o)), (6, .int (iI k))]) C dL_freeLine_62 (by decide) rfl ?_
            refine q_iinc (lv' := [(6, .int (iI (k + 1))), (5, .int (iI fd)), (7, .int (iI ((f + k) % 16))), (0, .ref (adr w a)), (1, .ref (adr w b)), (2, .int (iI f)), (3, .int (iI d)), (4, .int (iI o))]) C 7 dL_freeLine_64 rfl (by decide) rfl ?_
            refine q_goto C 6 dL_freeLine_67 (by decide) ?_
            refine q_lv (lv' := [(0, .ref (adr w a)), (1, .ref (adr w b)), (2, .int (iI f)), (3, .int (iI d)), (4, .int (iI o)), (5, .int (iI fd)), (6, .int (iI (k + 1)))]) [3, 4, 5, 6, 7, 1, 0] rfl ?_
            exact ih6 (k + 1) fd (⟨by omega, by omega, by first | exact hK | exact Or.inr ⟨⟨by omega, by omega⟩, by assumption, by omega⟩⟩) (by omega)
