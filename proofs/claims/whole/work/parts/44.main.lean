def zz_rm (d mc ms : Nat) : Room := { frames := d + 8, cells := mc, slots := ms, locals := 60 * d + 120 }
theorem zz_okm_ml {M : Nat} (h : M < 179) : zz_ml M ≤ 12 := by
  have := zz_okm_all h
  simp only [zz_okM, Bool.and_eq_true, decide_eq_true_eq] at this
  exact this.1.2
theorem zz_okm_cls {M : Nat} (h : M < 179) : plainName (zz_y M).cls = true ∧ (zz_y M).cls ≠ "java/lang/invoke/MethodHandle" ∧ (zz_y M).cls ≠ "java/lang/invoke/VarHandle" := by
  have := zz_okm_all h
  simp only [zz_okM, Bool.and_eq_true, decide_eq_true_eq] at this
  exact ⟨this.1.1.1.1, this.1.1.1.2, this.1.1.2⟩
theorem zz_okm_h {M : Nat} (h : M < 179) : zz_okH (zz_y M).cls (zz_hf M) (zz_hh M) (zz_qh.getD M []) = true := by
  have := zz_okm_all h
  simp only [zz_okM, Bool.and_eq_true, decide_eq_true_eq] at this
  exact this.2
theorem zz_CF_of {M : Nat} (h : M < 179) {args : Array Value} {s : State} (hts : ∀ w ∈ zz_ws, w.before args s = true) : zz_CF s (zz_y M) (zz_b M) (zz_ml M) (zz_rtf M) (zz_hf M) := by
  have hw := hts _ (zz_cw_in h)
  unfold zz_cw at hw
  split at hw
  · rename_i e
    rw [e]
    exact zz_CF_code hw
  · rename_i q r e
    rw [e]
    exact zz_CF_with hw
def zz_hnm (M : Nat) : List String := (zz_hh M).map fun q => zz_en q.2.2.2
theorem zz_okH_spec {own : String} : ∀ {hs hh : List (Nat × Nat × Nat × Nat)} {is : List Nat}, zz_okH own hs hh is = true → hs.length = (hh.map fun q => zz_en q.2.2.2).length ∧ (∀ (k : Nat) (q : Nat × Nat × Nat × Nat) (nm : String), hs[k]? = some q → (hh.map fun q => zz_en q.2.2.2)[k]? = some nm → ¬ q.2.2.2 = 0 ∧ Cond.classLink own q.2.2.2 nm ∈ zz_ws ∧ nm ∈ zz_ex4) ∧
    ∀ (pc e : Nat), 3 ≤ e → e < 7 → zz_hn pc (zz_en e) hs (hh.map fun q => zz_en q.2.2.2) = zz_hand pc e hh
  | [], [], _, _ => ⟨rfl, fun k q nm h => by simp at h, fun _ _ _ _ => rfl⟩
  | [], _ :: _, [], h => by cases h
  | [], _ :: _, _ :: _, h => by cases h
  | _ :: _, [], [], h => by cases h
  | _ :: _, [], _ :: _, h => by cases h
  | (a, b, t, ci) :: r, (a', b', t', cn) :: r', [], h => by cases h
  | (a, b, t, ci) :: r, (a', b', t', cn) :: r', i :: is, h => by
    simp only [zz_okH, Bool.and_eq_true, decide_eq_true_eq] at h
    obtain ⟨⟨⟨⟨⟨⟨⟨rfl, rfl⟩, rfl⟩, h0⟩, h3⟩, h7⟩, hw⟩, hr⟩ := h
    obtain ⟨g1, g2, g3⟩ := zz_okH_spec hr
    refine ⟨by simpa using g1, fun k q nm hq hn => ?_, fun pc e e3 e7 => ?_⟩
    · cases k with
      | zero =>
        simp only [List.getElem?_cons_zero, List.map_cons, Option.some.injEq] at hq hn
        subst hq
        subst hn
        exact ⟨h0, zz_hw_in hw, (zz_fit h3 h7).2.1⟩
      | succ k =>
        simp only [List.getElem?_cons_succ, List.map_cons] at hq hn
        exact g2 k q nm hq hn
    · simp only [List.map_cons, zz_hn, zz_hand]
      rw [g3 pc e e3 e7]
      by_cases hc : cn = e
      · subst hc
        simp
      · have : ¬ zz_en cn = zz_en e := fun z => hc ((zz_en_inj h3 h7 e3 e7).mp z)
        simp [hc, this]
theorem zz_prog_lt {M : Nat} {mi : zz_M} (h : zz_prog M = some mi) : M < 180 := (List.getElem?_eq_some_iff.mp h).1
theorem zz_i_call {x : List Nat} {pc : Nat} {L : List (Option Value)} {st : List Value} {k : Bool} {h : zz_H} {a : zz_A} (ha : zz_call x pc L st k h = some a) : st.length ≤ 12 ∧
    ((∃ M n, x = [0, M, n] ∧ n ≤ st.length ∧ a = .inr (.inr (M, (st.take n).reverse, (pc + 3, L, st.drop n, k, h)))) ∨
     (∃ M n c, x = [0, M, n, c] ∧ n ≤ st.length ∧ zz_recv c (st.take n).reverse h = true ∧ a = .inr (.inr (M, (st.take n).reverse, (pc + 3, L, st.drop n, k, h)))) ∨ zz_bi x pc L st k h = some a) := by
  unfold zz_call at ha
  split at ha
  · rename_i h12
    refine ⟨h12, ?_⟩
    split at ha
    · split at ha
      · rename_i hn
        cases ha
        exact Or.inl ⟨_, _, rfl, hn, rfl⟩
      · cases ha
    · split at ha
      · rename_i hn
        cases ha
        exact Or.inr (Or.inl ⟨_, _, _, rfl, hn.1, hn.2, rfl⟩)
      · cases ha
    · exact Or.inr (Or.inr ha)
  · cases ha
theorem zz_hand_in {own : String} : ∀ {hs hh : List (Nat × Nat × Nat × Nat)} {is : List Nat}, zz_okH own hs hh is = true → ∀ {pc e t : Nat}, zz_hand pc e hh = some t → 3 ≤ e ∧ e < 7
  | _, [], _, _, pc, e, t, h => by cases h
  | [], _ :: _, [], hk, _, _, _, _ => by cases hk
  | [], _ :: _, _ :: _, hk, _, _, _, _ => by cases hk
  | _ :: _, _ :: _, [], hk, _, _, _, _ => by cases hk
  | (a, b, t0, ci) :: r, (a', b', t', cn) :: r', i :: is, hk, pc, e, t, h => by
    simp only [zz_okH, Bool.and_eq_true, decide_eq_true_eq] at hk
    obtain ⟨⟨⟨⟨-, h3⟩, h7⟩, -⟩, hr⟩ := hk
    unfold zz_hand at h
    split at h
    · rename_i hc
      rw [← hc.2]
      exact ⟨h3, h7⟩
    · exact zz_hand_in hr h
section ZZ
variable {l : Launch} {s0 : State} {D : va_G} {cI cJ : ClassId}
def zz_Sd (l : Launch) (s0 : State) (D : va_G) (cI cJ : ClassId) (n : Nat) : Prop := ∀ (d M : Nat) (cf : zz_C) (r : zz_R), zz_run zz_prog n d M cf = some r → M < 180 →
    ∀ (p : Program) (e : Env) (R : Room) (s : State) (m : MethodId) (args : Array Value) (below : List Frame) (meth : Method) (c : Code) (H : Heap) (locs : List Loc) (cells slots : Nat) (ls : Array Slot) (t : List Value) (A : List Nat),
      zz_Ctx s0 p s m args meth c M → zz_LR A (zz_ml M) cf.2.1 ls → zz_SR A cf.2.2.1 t → zz_HR s0 D zz_cl zz_fk cI cJ A cf.2.2.2.2 H locs → (cf.2.2.2.1 = true → locs = [] ∧ cells = 0 ∧ slots = 0) → d + 8 ≤ R.frames → 60 * d + 120 ≤ R.locals →
      cells + (r.2.2.1.length - cf.2.2.2.2.1.length) ≤ R.cells → slots + (zz_size r.2.2 - zz_size cf.2.2.2.2) ≤ R.slots →
      W p l e R s m args below meth c H locs cells slots (zz_MQ below (zz_Q s0 D cI cJ A r) args s (cells + (r.2.2.1.length - cf.2.2.2.2.1.length)) (slots + (zz_size r.2.2 - zz_size cf.2.2.2.2)) s0.heap.size r.2.1) (F0 m cf.1 ls t)
theorem zz_met {n d M : Nat} {as vs : List Value} {h : zz_H} {q : zz_R} {A : List Nat} (ih : zz_Sd l s0 D cI cJ n) (hc : zz_runc zz_prog n (d + 1) M as h = some q) (hM : M < 179) (hvs : zz_SR A as vs) :
    zz_Met l (zz_y M) zz_ws (zz_rm d (q.2.2.1.length - h.1.length) (zz_size q.2.2 - zz_size h)) (fun a U => a = vs.toArray ∧ zz_HR s0 D zz_cl zz_fk cI cJ A h U.heap [] ∧ s0.vm.Alike U.vm) (zz_Q s0 D cI cJ A q) (q.2.2.1.length - h.1.length) (zz_size q.2.2 - zz_size h) s0.heap.size q.2.1 := by
  unfold zz_runc at hc
  dsimp only at hc
  cases hn : zz_enter zz_prog M as h with
  | none => rw [hn] at hc; cases hc
  | some c2 =>
    rw [hn] at hc
    dsimp only at hc
    unfold zz_enter at hn
    cases hp : zz_prog M with
    | none => rw [hp] at hn; cases hn
    | some mi =>
      rw [hp] at hn
      dsimp only at hn
      have hmi : zz_ml M = mi.1 := by unfold zz_ml; rw [hp]
      split at hn
      · rename_i hlay
        cases hn
        refine zz_Met.ofW (cc := zz_b M) (maxL := zz_ml M) (ret := zz_rtf M) (zz_okm_cls hM).1 (fun args s m hw hnm => ?_) ?_
        · obtain ⟨mk, methY, cY, g1, g2, g3, g4, g5, g6, g7, g8, g9⟩ := zz_CF_of hM hw
          cases Option.some.inj (g1.symm.trans hnm)
          exact ⟨methY, cY, g2, g3, g4, g5, g6, g7⟩
        · intro p e s m args below meth c s₁ B hml hP
          obtain ⟨rfl, hR, hal⟩ := hP
          have hts : ∀ w ∈ zz_ws, w.before vs.toArray s = true := atoms_spec (ws := zz_ws) B.pre
          obtain ⟨mk, methY, cY, g1, g2, g3, g4, g5, g6, g7, g8, g9⟩ := zz_CF_of hM hts
          cases Option.some.inj (g1.symm.trans B.named)
          cases Option.some.inj (g2.symm.trans B.method)
          have hcode : meth.code = some c := (Stand.of_body B).code
          cases Option.some.inj (g3.symm.trans hcode)
          obtain ⟨hnm, -⟩ := name_of_methodNamed B.named B.method
          have ctx : zz_Ctx s0 p s m vs.toArray meth c M := ⟨B.exec, B.bytes, hml, B.returns, B.notSynchronized, hnm, findClass_of_methodNamed B.named, hts, hal, g8, fun q hq => hR.2.2.2.2.2.1.2.1 q hq (fun z => absurd hq (Nat.not_lt.mpr z))⟩
          rw [lg_entry_eq]
          have hent := zz_entry (n := zz_ml M) hvs (by rw [hmi]; exact hlay)
          have := ih d M _ q hc (by omega) p e (zz_rm d (q.2.2.1.length - h.1.length) (zz_size q.2.2 - zz_size h)) s m vs.toArray below meth c s.heap [] 0 0 _ [] A ctx (by rw [← hmi]; exact hent) (rfl : ([] : List Value) = []) hR (fun _ => ⟨rfl, rfl, rfl⟩) (Nat.le_refl _) (Nat.le_refl _) (Nat.le_of_eq (Nat.zero_add _)) (Nat.le_of_eq (Nat.zero_add _))
          simp only [Nat.zero_add] at this
          exact this
      · cases hn
set_option maxHeartbeats 4000000 in
theorem zz_call_step {n d M M' nn pc : Nat} {L : List (Option Value)} {st : List Value} {k k' : Bool} {h h' : zz_H} {o : Option Value ⊕ Nat} {r : zz_R} {ins : Instr} {p : Program} {e : Env} {R : Room} {s : State} {m : MethodId} {args : Array Value} {below : List Frame} {meth : Method} {c : Code} {H : Heap} {locs : List Loc} {cells slots : Nat} {ls : Array Slot} {t : List Value} {A : List Nat}
    (hK0 : va_K D zz_cl [(cI, .int), (cJ, .long)] s0) (henv : zz_env s0) (ih : zz_Sd l s0 D cI cJ n) (X : zz_Ctx s0 p s m args meth c M) (hM : M < 180) (hM' : M' < 179) (hL : zz_LR A (zz_ml M) L ls) (hS : zz_SR A st t) (hR : zz_HR s0 D zz_cl zz_fk cI cJ A h H locs) (hk : k = true → locs = [] ∧ cells = 0 ∧ slots = 0) (hfr : d + 8 ≤ R.frames) (hlo : 60 * d + 120 ≤ R.locals)
    (hce : cells + (r.2.2.1.length - h.1.length) ≤ R.cells) (hsl : slots + (zz_size r.2.2 - zz_size h) ≤ R.slots) (h12 : st.length ≤ 12) (hini : Cond.initialized (zz_y M').cls ∈ zz_ws) (hdg : decode (zz_b M) pc = .ok (ins, 3))
    (harr : ∀ T, T.heap = H → Stand p l e R s m args below meth c T locs cells slots → zz_Arr p l e R s m args below meth c T locs cells slots (F0 m pc ls t) (t.drop nn) (zz_y M') (zz_ml M') ((t.take nn).reverse).toArray)
    (hc : zz_runc zz_prog n d M' (st.take nn).reverse h = some (o, k', h')) (hret : ∀ v, o = .inl v → zz_run zz_prog n d M (pc + 3, L, v.toList ++ st.drop nn, k && k', h') = some r)
    (hthr : ∀ a, o = .inr a → (∃ pc', zz_catch zz_prog M pc a h' = some pc' ∧ zz_run zz_prog n d M (pc', L, [.ref a], k && k', h') = some r) ∨ (zz_out zz_prog M = true ∧ r = (.inr a, k && k', h'))) :
    W p l e R s m args below meth c H locs cells slots (zz_MQ below (zz_Q s0 D cI cJ A r) args s (cells + (r.2.2.1.length - h.1.length)) (slots + (zz_size r.2.2 - zz_size h)) s0.heap.size r.2.1) (F0 m pc ls t) := by
  have hX := X
  obtain ⟨hexec, hb, hml, hr, hlocks, hname, hown, hts, hal, htab, hlow⟩ := X
  have hK : va_K D zz_cl [(cI, .int), (cJ, .long)] s := hK0.moved hal
  cases d with
  | zero => unfold zz_runc at hc; cases hc
  | succ d =>
    have hvs : zz_SR A (st.take nn).reverse (t.take nn).reverse := zz_SR_rev (zz_SR_take nn hS)
    have hdr : zz_SR A (st.drop nn) (t.drop nn) := zz_SR_drop nn hS
    have hmet := zz_met ih hc hM' hvs
    have hextq : zz_ext h h' ∧ (k' = true → h' = h) := by
      unfold zz_runc at hc
      dsimp only at hc
      cases hn : zz_enter zz_prog M' (st.take nn).reverse h with
      | none => rw [hn] at hc; cases hc
      | some c2 =>
        rw [hn] at hc
        have h3 : c2.2.2.2.2 = h := by
          unfold zz_enter at hn
          split at hn
          · split at hn
            · cases hn; rfl
            · cases hn
          · cases hn
        have h1 := zz_run_ext zz_prog n d M' c2 _ hc
        rw [h3] at h1
        exact ⟨h1, fun z => by
          have h2 := (zz_run_cl zz_prog n d M' c2 _ hc z).2
          rw [h3] at h2
          exact h2⟩
    obtain ⟨hex, hcl⟩ := hextq
    have hl1 := zz_ext_le hex
    have hl2 : h'.1.length ≤ r.2.2.1.length ∧ zz_size h' ≤ zz_size r.2.2 := by
      cases o with
      | inl v => exact zz_ext_le (zz_run_ext zz_prog n (d + 1) M _ r (hret v rfl))
      | inr a =>
        rcases hthr a rfl with ⟨pc', -, h2⟩ | ⟨-, h2⟩
        · exact zz_ext_le (zz_run_ext zz_prog n (d + 1) M _ r h2)
        · rw [h2]
          exact ⟨Nat.le_refl _, Nat.le_refl _⟩
    have hml12 := zz_okm_ml hM'
    have hcat : ((t.drop nn).map fun v => v.category).sum ≤ 24 := by
      have h1 := zz_cats (t.drop nn)
      have h2 : (t.drop nn).length ≤ t.length := by rw [List.length_drop]; omega
      have h3 := zz_SR_len hS
      omega
    have hclean : ∀ L' : List Loc, (k' = true → L' = []) → (k && k') = true → locs ++ L' = [] ∧ cells + (h'.1.length - h.1.length) = 0 ∧ slots + (zz_size h' - zz_size h) = 0 := by
      intro L' hL' hz
      rw [Bool.and_eq_true] at hz
      obtain ⟨z1, z2, z3⟩ := hk hz.1
      rw [z1, z2, z3, hL' hz.2, hcl hz.2]
      simp
    have e1 : cells + (h'.1.length - h.1.length) + (r.2.2.1.length - h'.1.length) = cells + (r.2.2.1.length - h.1.length) := by omega
    have e2 : slots + (zz_size h' - zz_size h) + (zz_size r.2.2 - zz_size h') = slots + (zz_size r.2.2 - zz_size h) := by omega
    refine zz_W_call hmet hts hini (g := F0 m pc ls t) (rest := t.drop nn) (ig := ins) harr rfl (by rw [hml]; exact hL.2.1) (by rw [hb]; exact hdg) rfl (by show d + 8 + 1 ≤ _; omega) (by show _ + _ + (60 * d + 120) ≤ _; omega) (by show cells + (h'.1.length - h.1.length) ≤ _; omega) (by show slots + (zz_size h' - zz_size h) ≤ _; omega)
      (fun U hU hW => ⟨rfl, by rw [hU]; exact zz_HR_nil hR, hal.trans hW.alike⟩) ?_ ?_
    · intro v st' t' L' hst hWt hq hLb hck
      obtain ⟨halt, B, hRB, hO⟩ := hq
      have hRB' := zz_HR_locs hRB (locs := locs ++ L') (fun q hq => by
        rcases List.mem_append.mp hq with hq | hq
        · exact hR.2.2.2.2.2.1.2.2 q hq
        · exact hLb q hq)
      cases o with
      | inr a =>
        obtain ⟨x, -, hx⟩ := hO
        cases hx
      | inl vq =>
        have hsr : zz_SR (A ++ B) (vq.toList ++ st.drop nn) (v.toList ++ t.drop nn) := by
          cases vq with
          | none =>
            have hO' : Outcome.returned v = .returned none := hO
            cases hO'
            exact zz_SR_app hdr
          | some u =>
            obtain ⟨w, hvw, hw⟩ := hO
            cases hw
            exact ⟨w, _, rfl, hvw, zz_SR_app hdr⟩
        have hrr := hret vq rfl
        have ihr := ih (d + 1) M _ r hrr hM p e R s m args below meth c t'.heap (locs ++ L') (cells + (h'.1.length - h.1.length)) (slots + (zz_size h' - zz_size h)) ls (v.toList ++ t.drop nn) (A ++ B) hX (zz_LR_app hL) hsr hRB' (hclean L' hck) hfr hlo (by show _ + (r.2.2.1.length - h'.1.length) ≤ _; omega) (by show _ + (zz_size r.2.2 - zz_size h') ≤ _; omega)
        dsimp only at ihr
        rw [e1, e2] at ihr
        exact zz_W_mono (fun u hu => zz_MQ_app (B := B) u hu) ihr
    · intro x st' t' L' hst hWt hq hLb hck
      obtain ⟨halt, B, hRB, hO⟩ := hq
      have hbase : ∀ q ∈ locs ++ L', s0.heap.size ≤ q.base := fun q hq => by
        rcases List.mem_append.mp hq with hq | hq
        · exact hR.2.2.2.2.2.1.2.2 q hq
        · exact hLb q hq
      have hRB' := zz_HR_locs hRB (locs := locs ++ L') hbase
      cases o with
      | inl vq =>
        cases vq with
        | none =>
          have hO' : Outcome.threw x = .returned none := hO
          cases hO'
        | some u =>
          obtain ⟨w, -, hw⟩ := hO
          cases hw
      | inr a =>
        obtain ⟨x', hx', hxx⟩ := hO
        cases hxx
        rcases hthr a rfl with ⟨pc', hcatch, hrr⟩ | ⟨hout, hre⟩
        · unfold zz_catch at hcatch
          cases hp : zz_prog M with
          | none => rw [hp] at hcatch; cases hcatch
          | some mi =>
            rw [hp] at hcatch
            cases hsh : h'.1[a]? with
            | none => rw [hsh] at hcatch; cases hcatch
            | some q =>
              obtain ⟨q1, ec⟩ := q
              rw [hsh] at hcatch
              have hq4 : q1 = 4 ∧ zz_hand pc ec mi.2.1 = some pc' := by
                split at hcatch
                · rename_i heq1 heq2
                  cases heq1
                  cases heq2
                  exact ⟨rfl, hcatch⟩
                · cases hcatch
              obtain ⟨rfl, hhand⟩ := hq4
              have hhh : zz_hh M = mi.2.1 := by unfold zz_hh; rw [hp]
              have hM9 : M < 179 := by
                rcases Nat.lt_or_ge M 179 with z | z
                · exact z
                · have : M = 179 := by omega
                  subst this
                  have e179 : zz_hh 179 = [] := rfl
                  rw [← hhh, e179] at hhand
                  cases hhand
              have hokh := zz_okm_h hM9
              rw [hhh] at hokh
              obtain ⟨he3, he7⟩ := zz_hand_in hokh hhand
              obtain ⟨o1, o2, o3⟩ := zz_okH_spec hokh
              obtain ⟨f1, f2, f3⟩ := zz_fit he3 he7
              obtain ⟨h5, hat⟩ := zz_HR_at hRB hsh (by simp) hx'
              obtain ⟨rr, hrr1, cell, hc1, hc2, hc3, -⟩ := hRB.2.2.2.1 (a - 5) _ hat
              have hcln := zz_en_cl he3 he7
              have hfc := (hK.1 ec _ hcln).2.1
              refine zz_TW_catch (own := (zz_y M).cls) (E := zz_en ec) (cell := cell) (hs := zz_hf M) (ns := mi.2.1.map fun q => zz_en q.2.2.2) (pc' := pc') rfl hown htab hc1 (by rw [hc3]; rfl) (by rw [hc2]; exact hfc) (zz_env_words hal hlow henv _ f3) o1 (fun kq q nm hq hn => ?_) ?_ ?_
              · obtain ⟨g1, g2, g3⟩ := o2 kq q nm hq hn
                exact ⟨g1, hts _ g2, fun hne => (henv.2.1 _ f2 _ g3 (fun z => hne z.symm)).moved hal⟩
              · show zz_hn pc (zz_en ec) (zz_hf M) _ = some pc'
                rw [o3 pc ec he3 he7]
                exact hhand
              · have ihr := ih (d + 1) M _ r hrr hM p e R s m args below meth c t'.heap (locs ++ L') (cells + (h'.1.length - h.1.length)) (slots + (zz_size h' - zz_size h)) ls [.ref x] (A ++ B) hX (zz_LR_app hL) (zz_SR_r hx' (rfl : ([] : List Value) = [])) hRB' (hclean L' hck) hfr hlo (by show _ + (r.2.2.1.length - h'.1.length) ≤ _; omega) (by show _ + (zz_size r.2.2 - zz_size h') ≤ _; omega)
                dsimp only at ihr
                rw [e1, e2] at ihr
                exact zz_W_mono (fun u hu => zz_MQ_app (B := B) u hu) ihr
        · subst hre
          have hhf : zz_hf M = [] := by
            unfold zz_out at hout
            cases hp : zz_prog M with
            | none => rw [hp] at hout; cases hout
            | some mi =>
              rw [hp] at hout
              dsimp only at hout
              have hhh : zz_hh M = mi.2.1 := by unfold zz_hh; rw [hp]
              rcases Nat.lt_or_ge M 179 with z | z
              · have o1 := (zz_okH_spec (zz_okm_h z)).1
                rw [hhh, List.isEmpty_iff.mp hout] at o1
                exact List.eq_nil_of_length_eq_zero (by simpa using o1)
              · have : M = 179 := by omega
                subst this
                rfl
          dsimp only
          rw [show cells + (h'.1.length - h.1.length) = cells + (h'.1.length - h.1.length) from rfl]
          refine zz_TW_out rfl rfl rfl (by rw [htab, hhf]; rfl) hlocks hbase (fun z => (hclean L' hck z).1) (fun u hu hWu => ?_)
          exact ⟨hal.trans hWu.alike, B, by rw [hu]; exact hRB, x, hx', rfl⟩
set_option maxHeartbeats 8000000 in
theorem zz_sd_succ {n : Nat} (hK0 : va_K D zz_cl [(cI, .int), (cJ, .long)] s0) (henv : zz_env s0) (htr : l.stackTraces = false) (ih : zz_Sd l s0 D cI cJ n) : zz_Sd l s0 D cI cJ (n + 1) := by
  rintro d M ⟨pc, L, st, k, h⟩ r hrun hM p e R s m args below meth c H locs cells slots ls t A X hL hS hR hk hfr hlo hce hsl
  dsimp only at hL hS hR hk hce hsl ⊢
  rw [zz_run_succ] at hrun
  unfold zz_step at hrun
  cases hact : zz_act zz_prog M (pc, L, st, k, h) with
  | none => rw [hact] at hrun; cases hrun
  | some act =>
    have hext := zz_act_ext hact
    rw [hact] at hrun
    unfold zz_act at hact
    dsimp only at hact
    cases hfe : zz_fetch zz_prog M pc with
    | none => rw [hfe] at hact; cases hact
    | some ii =>
      rw [hfe] at hact
      dsimp only at hact
      have hokI := zz_okP_at (zz_ok_all hM) hfe
      simp only [zz_okI, Bool.and_eq_true, decide_eq_true_eq] at hokI
      obtain ⟨⟨hd, hokN⟩, hokX⟩ := hokI
      obtain ⟨ins, len, x, sw⟩ := ii
      dsimp only at hd hokN hokX
      unfold zz_ex at hact
      dsimp only at hact
      have hX := X
      obtain ⟨hexec, hb, hml, hr, hlocks, hname, hown, hts, hal, htab, hlow⟩ := X
      cases hnum : zz_nums ins x sw pc L st with
      | some tr =>
        obtain ⟨pc', L', st'⟩ := tr
        rw [hnum] at hact
        cases hact
        dsimp only at hrun
        refine zz_nums_sound hexec hb hd hokN hnum hL hS (fun ls' t' hL' hS' => ?_)
        exact ih d M _ r hrun hM p e R s m args below meth c H locs cells slots ls' t' A hX hL' hS' hR hk hfr hlo hce hsl
      | none =>
        rw [hnum] at hact
        dsimp only at hact
        cases hinv : zz_inv ins with
        | false =>
          rw [hinv] at hact
          dsimp only at hact
          obtain q | cf' | q := act
          · dsimp only at hrun
            cases hrun
            exact zz_hstop hK0 henv htr hX hd hokX hact hL.2.1 hS hR hk (by omega) (by omega) hce hsl
          · dsimp only at hrun
            have hext2 := zz_run_ext zz_prog n d M cf' r hrun
            have hl1 := zz_ext_le (show zz_ext h cf'.2.2.2.2 from hext)
            have hl2 := zz_ext_le hext2
            refine zz_hgo hK0 hX hd hokX hact hS hR (by omega) (by omega) (fun B H1 locs1 t' hLe hS' hR' hk' => ?_)
            refine zz_W_mono (fun u hu => zz_MQ_app (B := B) u hu) ?_
            have ihr := ih d M cf' r hrun hM p e R s m args below meth c H1 locs1 (cells + (cf'.2.2.2.2.1.length - h.1.length)) (slots + (zz_size cf'.2.2.2.2 - zz_size h)) ls t' (A ++ B) hX (by rw [hLe]; exact zz_LR_app hL) hS' hR' (fun z => by
              obtain ⟨z1, z2, z3⟩ := hk' z
              obtain ⟨z4, z5, z6⟩ := hk z1
              rw [z2, z3, z4, z5, z6]
              simp) hfr hlo (by omega) (by omega)
            have e1 : cells + (cf'.2.2.2.2.1.length - h.1.length) + (r.2.2.1.length - cf'.2.2.2.2.1.length) = cells + (r.2.2.1.length - h.1.length) := by omega
            have e2 : slots + (zz_size cf'.2.2.2.2 - zz_size h) + (zz_size r.2.2 - zz_size cf'.2.2.2.2) = slots + (zz_size r.2.2 - zz_size h) := by omega
            rw [e1, e2] at ihr
            exact ihr
          · exfalso
            revert hact
            unfold zz_heap
            simp only [zz_go]
            intro hact
            repeat' split at hact
            all_goals cases hact
        | true =>
          rw [hinv] at hact
          dsimp only at hact
          obtain ⟨h12, hcase⟩ := zz_i_call hact
          have key : ∀ (M' nn : Nat), act = .inr (.inr (M', (st.take nn).reverse, (pc + 3, L, st.drop nn, k, h))) → M' < 179 → len = 3 → Cond.initialized (zz_y M').cls ∈ zz_ws →
              (∀ T, T.heap = H → Stand p l e R s m args below meth c T locs cells slots → zz_Arr p l e R s m args below meth c T locs cells slots (F0 m pc ls t) (t.drop nn) (zz_y M') (zz_ml M') ((t.take nn).reverse).toArray) →
              W p l e R s m args below meth c H locs cells slots (zz_MQ below (zz_Q s0 D cI cJ A r) args s (cells + (r.2.2.1.length - h.1.length)) (slots + (zz_size r.2.2 - zz_size h)) s0.heap.size r.2.1) (F0 m pc ls t) := by
            intro M' nn hac hM' hlen hini harr
            subst hac
            subst hlen
            dsimp only at hrun
            cases hc : zz_runc zz_prog n d M' (st.take nn).reverse h with
            | none => rw [hc] at hrun; cases hrun
            | some q =>
              rw [hc] at hrun
              obtain ⟨o, k', h'⟩ := q
              refine zz_call_step hK0 henv ih hX hM hM' hL hS hR hk hfr hlo hce hsl h12 hini hd harr hc (fun v hv => ?_) (fun a hv => ?_)
              · subst hv
                exact hrun
              · subst hv
                dsimp only at hrun
                cases hz : zz_catch zz_prog M pc a h' with
                | some pc' =>
                  rw [hz] at hrun
                  exact Or.inl ⟨pc', rfl, hrun⟩
                | none =>
                  rw [hz] at hrun
                  dsimp only at hrun
                  cases ho : zz_out zz_prog M with
                  | true =>
                    rw [ho] at hrun
                    cases hrun
                    exact Or.inr ⟨rfl, rfl⟩
                  | false => rw [ho] at hrun; cases hrun
          have htk : ∀ nn, ((t.take nn).reverse).reverse ++ t.drop nn = t := fun nn => by rw [List.reverse_reverse, List.take_append_drop]
          have hlt := zz_SR_len hS
          rcases hcase with ⟨M', nn, rfl, hn, hac⟩ | ⟨M', nn, cn, rfl, hn, hrecv, hac⟩ | hbi
          · cases ins with
            | invokestatic idx =>
              simp only [zz_okX, Bool.and_eq_true, beq_iff_eq] at hokX
              obtain ⟨hlen, hok⟩ := hokX
              split at hok
              · rename_i a1 a2 a3 e1 e2
                cases e1
                simp only [Bool.and_eq_true, decide_eq_true_eq] at hok
                obtain ⟨⟨⟨⟨w1, w2⟩, w3⟩, hnp⟩, hM'⟩ := hok
                refine key M' nn hac hM' hlen (zz_hw_in w3) (fun T hT XT => ?_)
                exact zz_arrS XT hexec hown (hts _ (zz_hw_in w1)) (hts _ (zz_hw_in w2)) (hts _ (zz_hw_in w3)) (zz_CF_of hM' hts) (zz_okm_cls hM').2 rfl (by
                  have : zz_np M' = some nn := hnp
                  unfold zz_np at this
                  rw [this, List.length_reverse, List.length_take]
                  congr 1
                  omega) (htk nn).symm (by rw [hb]; subst hlen; exact hd)
              all_goals first
                | (rename_i e1 e2; cases e1; done)
                | (cases hok; done)
            | invokevirtual idx =>
              simp only [zz_okX, Bool.and_eq_true, beq_iff_eq] at hokX
              obtain ⟨hlen, hok⟩ := hokX
              cases hok
            | invokespecial idx =>
              simp only [zz_okX, Bool.and_eq_true, beq_iff_eq] at hokX
              obtain ⟨hlen, hok⟩ := hokX
              cases hok
            | _ => simp [zz_inv] at hinv
          · have hrv : ∃ a as, (st.take nn).reverse = .ref a :: as ∧ h.1[a]? = some (0, cn) := by
              unfold zz_recv at hrecv
              split at hrecv
              · rename_i a as hst
                split at hrecv
                · rename_i c' hc'
                  have : c' = cn := Nat.eq_of_beq_eq_true hrecv
                  subst this
                  exact ⟨a, as, hst, hc'⟩
                · cases hrecv
              · cases hrecv
            obtain ⟨a, as, hst, hsh⟩ := hrv
            have hvs : zz_SR A (st.take nn).reverse (t.take nn).reverse := zz_SR_rev (zz_SR_take nn hS)
            rw [hst] at hvs
            obtain ⟨b, As, hAs, hb0, hAr⟩ := zz_SR_ref hvs
            have hlenA : As.length + 1 = nn := by
              have h1 : ((t.take nn).reverse).length = nn := by rw [List.length_reverse, List.length_take]; omega
              rw [hAs] at h1
              simpa using h1
            have hstack : t = As.reverse ++ .ref b :: t.drop nn := by
              have h1 := htk nn
              rw [hAs, List.reverse_cons, List.append_assoc] at h1
              exact h1.symm
            obtain ⟨h5, hat⟩ := zz_HR_at hR hsh (by simp) hb0
            obtain ⟨rr, hrr1, cell, hc1, hc2, hc3, -⟩ := hR.2.2.2.1 (a - 5) _ hat
            have hcn : s.vm.findClass (zz_en cn) = some cell.cls := by
              have hK : va_K D zz_cl [(cI, .int), (cJ, .long)] s := hK0.moved hal
              have h1 := (hK.1 cn rr hrr1).2.1
              have h2 : zz_en cn = rr.1 := by unfold zz_en; rw [zz_getD hrr1]
              rw [h2, hc2]
              exact h1
            cases ins with
            | invokestatic idx =>
              simp only [zz_okX, Bool.and_eq_true, beq_iff_eq] at hokX
              obtain ⟨hlen, hok⟩ := hokX
              cases hok
            | invokevirtual idx =>
              simp only [zz_okX, Bool.and_eq_true, beq_iff_eq] at hokX
              obtain ⟨hlen, hok⟩ := hokX
              split at hok
              · rename_i a1 a2 a3 a4 e1 e2
                cases e1
                simp only [Bool.and_eq_true, decide_eq_true_eq] at hok
                obtain ⟨⟨⟨⟨⟨w1, w2⟩, w3⟩, w4⟩, hnp⟩, hM'⟩ := hok
                refine key M' nn hac hM' hlen (zz_hw_in w4) (fun T hT XT => ?_)
                rw [hAs]
                exact zz_arrV XT hexec hown (hts _ (zz_hw_in w1)) (hts _ (zz_hw_in w2)) (hts _ (zz_hw_in w3)) (zz_CF_of hM' hts) (zz_okm_cls hM').2 (by rw [hT]; exact hc1) (by rw [hc3]; rfl) hcn rfl (by
                  unfold zz_np at hnp
                  cases hpp : parseMethodDescriptor (zz_y M').desc with
                  | none => rw [hpp] at hnp; cases hnp
                  | some dd =>
                    rw [hpp] at hnp
                    simp only [Option.map_some, Option.some.injEq] at hnp ⊢
                    omega) hstack (by rw [hb]; subst hlen; exact hd)
              · cases hok
            | invokespecial idx =>
              simp only [zz_okX, Bool.and_eq_true, beq_iff_eq] at hokX
              obtain ⟨hlen, hok⟩ := hokX
              split at hok
              · rename_i a1 a2 a3 e1 e2
                cases e1
                simp only [Bool.and_eq_true, decide_eq_true_eq] at hok
                obtain ⟨⟨⟨⟨⟨⟨⟨w1, w2⟩, w3⟩, hnp⟩, hin⟩, hhf⟩, hrt⟩, hM'⟩ := hok
                have hcw := hts _ (zz_cw_in hM')
                unfold zz_cw at hcw
                rw [hhf, hrt] at hcw
                refine key M' nn hac hM' hlen (zz_hw_in w3) (fun T hT XT => ?_)
                rw [hAs]
                exact zz_arrI XT hexec hown (hts _ (zz_hw_in w1)) (hts _ (zz_hw_in w2)) hin hcw (zz_okm_cls hM').2 rfl (by
                  unfold zz_np at hnp
                  cases hpp : parseMethodDescriptor (zz_y M').desc with
                  | none => rw [hpp] at hnp; cases hnp
                  | some dd =>
                    rw [hpp] at hnp
                    simp only [Option.map_some, Option.some.injEq] at hnp ⊢
                    omega) hstack (by rw [hb]; subst hlen; exact hd)
              · rename_i e1 e2
                cases e1
              · cases hok
            | _ => simp [zz_inv] at hinv
          · have hgo : ∃ cf', act = .inr (.inl cf') := by
              rcases zz_i_bi hbi with ⟨_, _, _, _, he⟩ | ⟨_, _, _, _, _, _, _, _, _, he⟩ | ⟨_, _, _, _, _, he⟩ | ⟨_, _, _, _, _, he⟩ | ⟨_, _, _, _, he⟩ | ⟨_, _, _, _, _, he⟩ <;> exact ⟨_, he⟩
            obtain ⟨cf', rfl⟩ := hgo
            dsimp only at hrun
            refine zz_bgo hK0 hX hd hinv hokX hbi h12 hL.2.1 hS hR (by omega) (by omega) (by omega) (by omega) (fun H1 locs1 t' hLe hS' hR' hk' hsh => ?_)
            have e0 : zz_size cf'.2.2.2.2 = zz_size h := by unfold zz_size; rw [hsh]
            have ihr := ih d M cf' r hrun hM p e R s m args below meth c H1 locs1 cells slots ls t' A hX (by rw [hLe]; exact hL) hS' hR' (fun z => by
              obtain ⟨z1, z2⟩ := hk' z
              rw [z2]
              exact hk z1) hfr hlo (by rw [hsh]; exact hce) (by rw [e0]; exact hsl)
            rw [hsh, e0] at ihr
            exact ihr
theorem zz_sound (hK0 : va_K D zz_cl [(cI, .int), (cJ, .long)] s0) (henv : zz_env s0) (htr : l.stackTraces = false) : ∀ n, zz_Sd l s0 D cI cJ n
  | 0 => fun _ _ _ _ h => by cases h
  | n + 1 => zz_sd_succ hK0 henv htr (zz_sound hK0 henv htr n)
end ZZ
