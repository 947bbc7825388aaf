/-! What the program must keep; a frame's run. -/
def ai_tk (Ts : List Cond) (own E : String) (q : Nat × Nat × Nat × Nat) (b : Bool) : Prop := q.2.2.2 ≠ 0 ∧ ∃ nm : String, Cond.classLink own q.2.2.2 nm ∈ Ts ∧ ((b = true ∧ Cond.castable E nm ∈ Ts) ∨ (b = false ∧ Cond.not (.castable E nm) ∈ Ts))
def ai_cov (q : Nat × Nat × Nat × Nat) (pc : Nat) : Bool := decide (q.1 ≤ pc) && decide (pc < q.2.1)
def ai_thr (Ts : List Cond) (own : String) (cc : ByteArray) (hh : List (Nat × Nat × Nat × Nat)) (E : String) (pc : Nat) (ins : Instr) : Prop := ∃ (ik ic : Nat) (ns : List String), ins = .new ik ∧ ai_tok Ts own E ns ik ic ∧ ns.length ≤ 6 ∧ decode cc (pc + 3) = .ok (.dup, 1) ∧ decode cc (pc + 4) = .ok (.invokespecial ic, 3) ∧ decode cc (pc + 7) = .ok (.athrow, 1) ∧ ∀ q ∈ hh, ai_cov q (pc + 7) = false
def ai_hnd (Ts : List Cond) (own : String) (hh : List (Nat × Nat × Nat × Nat)) (ex : Nat → String) (Hn : Nat → Option (Option Nat)) (pc : Nat) : Prop :=
  (∀ x, Hn x = some none → ∀ q ∈ hh, ai_cov q pc = false) ∧ ∀ x pc', Hn x = some (some pc') → ∃ (pre : List (Nat × Nat × Nat × Nat)) (q : Nat × Nat × Nat × Nat) (suf : List (Nat × Nat × Nat × Nat)), hh = pre ++ q :: suf ∧ q.2.2.1 = pc' ∧ ai_cov q pc = true ∧ ai_tk Ts own (ex x) q true ∧ ∀ z ∈ pre, ai_cov z pc = false ∨ ai_tk Ts own (ex x) z false
def ai_rok (Ts : List Cond) (cl : List vw_C) (P : ai_P) (M : ai_M) (ex : Nat → String) (mi : Nat) (y : MethodName) (cc : ByteArray) (hh : List (Nat × Nat × Nat × Nat)) (pc : Nat) (r : ai_I) : Prop :=
  ∃ len, decode cc pc = .ok (r.2.1, len) ∧ ai_lok r.2.1 len = true ∧ (r.1 = 1 → ai_jok r.2.1 pc r.2.2) ∧ (r.1 = 3 → ai_hok Ts cl P.2.2.2.2.1 P.2.2.2.2.2.1 P.2.2.2.1 y.cls y.name r.2.1 r.2.2) ∧
    (r.1 = 4 → len = 3 ∧ ai_hnd Ts y.cls hh ex (P.2.1 mi pc) pc ∧ ∃ (y' : MethodName) (cc' : ByteArray) (hh' : List (Nat × Nat × Nat × Nat)) (n : Nat), M (r.2.2.getD 0 0) = some (y', cc', hh') ∧ (parseMethodDescriptor y'.desc).map (fun d => d.parameters.length) = some n ∧ ai_iok Ts cl y.cls y' n r.2.1 r.2.2) ∧
    (r.1 = 6 → len = 3 ∧ ai_thr Ts y.cls cc hh (ex (r.2.2.getD 0 0)) pc r.2.1) ∧
    (r.1 = 7 → len = 3 ∧ ∃ idx, r.2.1 = .invokespecial idx ∧ Cond.methodLink y.cls idx Lib.objectInit ∈ Ts ∧ Cond.instanceMethod Lib.objectInit ∈ Ts ∧ Cond.code Lib.objectInit ⟨#[0xb1]⟩ 1 none ∈ Ts) ∧
    (r.1 = 8 → len = 3 ∧ ∃ idx, r.2.1 = .invokestatic idx ∧ Cond.methodLink y.cls idx Lib.Math.max.name ∈ Ts ∧ Cond.static Lib.Math.max.name ∈ Ts ∧ Cond.initialized "java/lang/Math" ∈ Ts ∧ Cond.code Lib.Math.max.name Lib.Math.max.code 2 (some .int) ∈ Ts) ∧
    (r.1 = 9 → len = 3 ∧ ∃ idx, r.2.1 = .invokestatic idx ∧ Cond.methodLink y.cls idx Lib.Math.min.name ∈ Ts ∧ Cond.static Lib.Math.min.name ∈ Ts ∧ Cond.initialized "java/lang/Math" ∈ Ts ∧ Cond.code Lib.Math.min.name Lib.Math.min.code 2 (some .int) ∈ Ts) ∧
    (r.1 = 10 → ai_xok Ts y.cls pc len r.2.1 r.2.2)
def ai_mok (Ts : List Cond) (cl : List vw_C) (P : ai_P) (M : ai_M) (ex : Nat → String) : Prop := ∀ mi y cc hh, M mi = some (y, cc, hh) → plainFor y = true ∧ Cond.initialized y.cls ∈ Ts ∧ (y.cls ≠ "java/lang/invoke/MethodHandle" ∧ y.cls ≠ "java/lang/invoke/VarHandle") ∧ ai_cw Ts y cc (P.2.2.1 mi).1 (P.2.2.1 mi).2 hh ∧
  (y.name = "<init>" → hh = [] ∧ (P.2.2.1 mi).2 = none ∧ Cond.code y cc (P.2.2.1 mi).1 none ∈ Ts) ∧ (P.2.2.1 mi).1 ≤ 45 ∧ ∀ pc r, P.1 mi pc = some r → ai_rok Ts cl P M ex mi y cc hh pc r
theorem ai_lr.ext {h : ai_H} {ρ ρ' : ai_A → Nat} {ls : ai_L} {A : Array Slot} (hl : ai_lr ρ ls A) (hk : ∀ v, some v ∈ ls → ai_ok h v) (e : ai_le h ρ ρ') : ai_lr ρ' ls A := by
  obtain ⟨lv, h1, h2⟩ := hl
  exact ⟨lv, h1, fun k v hv => by rw [ai_v_ext (hk v (List.mem_of_getElem? hv)) e]; exact h2 k v hv⟩
theorem ai_lr.size {ρ : ai_A → Nat} {ls : ai_L} {A : Array Slot} (hl : ai_lr ρ ls A) : A.size = ls.length := by
  obtain ⟨lv, h1, -⟩ := hl
  exact h1.1
theorem ai_st1_ok {h : ai_H} {ls ls' : ai_L} {i : Nat} {v : ai_V} (hs : ai_st1 ls i v = some ls') (hv : ai_ok h v) (hl : ∀ w, some w ∈ ls → ai_ok h w) : ls'.length = ls.length ∧ ∀ w, some w ∈ ls' → ai_ok h w := by
  unfold ai_st1 at hs
  split at hs
  · cases hs
    refine ⟨List.length_set, fun w hw => ?_⟩
    rcases List.mem_or_eq_of_mem_set hw with z | z
    · exact hl w z
    · cases z; exact hv
  · cases hs
theorem ai_st2_ok {h : ai_H} {ls ls' : ai_L} {i : Nat} {v : ai_V} (hs : ai_st2 ls i v = some ls') (hv : ai_ok h v) (hl : ∀ w, some w ∈ ls → ai_ok h w) : ls'.length = ls.length ∧ ∀ w, some w ∈ ls' → ai_ok h w := by
  unfold ai_st2 at hs
  split at hs
  · cases hs
    refine ⟨by rw [List.length_set, List.length_set], fun w hw => ?_⟩
    rcases List.mem_or_eq_of_mem_set hw with z | z
    · rcases List.mem_or_eq_of_mem_set z with z | z
      · exact hl w z
      · cases z; exact hv
    · cases z
  · cases hs
theorem ai_pure_ok {h : ai_H} {ins : Instr} {st st' : List ai_V} (hp : ai_pure ins st = some st') (hs : ∀ v ∈ st, ai_ok h v) : ∀ v ∈ st', ai_ok h v := by
  have ii : ∀ f, ai_ii f st = some st' → ∀ v ∈ st', ai_ok h v := by
    intro f z
    obtain ⟨x, y, r, rfl, rfl⟩ := ai_ii_spec z
    exact ai_oks ai_ok_int (ai_okt (ai_okt hs))
  have ll : ∀ f, ai_ll f st = some st' → ∀ v ∈ st', ai_ok h v := by
    intro f z
    obtain ⟨x, y, r, rfl, rfl⟩ := ai_ll_spec z
    exact ai_oks ai_ok_long (ai_okt (ai_okt hs))
  have li : ∀ f, ai_li f st = some st' → ∀ v ∈ st', ai_ok h v := by
    intro f z
    obtain ⟨x, y, r, rfl, rfl⟩ := ai_li_spec z
    exact ai_oks ai_ok_long (ai_okt (ai_okt hs))
  unfold ai_pure at hp
  repeat' split at hp
  all_goals first
    | (cases hp; done)
    | exact ii _ hp
    | exact ll _ hp
    | exact li _ hp
    | (cases hp; exact ai_oks ai_ok_int hs)
    | (cases hp; exact ai_oks ai_ok_long hs)
    | (cases hp; exact ai_oks ai_ok_null hs)
    | (cases hp; exact ai_oks ai_ok_int (ai_okt hs))
    | (cases hp; exact ai_oks ai_ok_long (ai_okt hs))
    | (cases hp; exact ai_oks ai_ok_int (ai_okt (ai_okt hs)))
    | (cases hp; exact ai_okt hs)
    | (cases hp; exact ai_oks (hs _ (by simp)) hs)
    | (cases hp; intro v hv; refine hs v ?_; simp only [List.mem_cons] at hv ⊢; grind)
theorem ai_jmp_ok {h : ai_H} {ins : Instr} {pc pc' : Nat} {ks : List Nat} {st st' : List ai_V} (hp : ai_jmp ins pc ks st = some (pc', st')) (hs : ∀ v ∈ st, ai_ok h v) : ∀ v ∈ st', ai_ok h v := by
  unfold ai_jmp at hp
  repeat' split at hp
  all_goals first
    | (cases hp; done)
    | (cases hp; exact hs)
    | (cases hp; exact ai_okt hs)
    | (cases hp; exact ai_okt (ai_okt hs))
theorem ai_loc_ok {h : ai_H} {ins : Instr} {ls ls' : ai_L} {st st' : List ai_V} (hp : ai_loc ins ls st = some (ls', st')) (hs : ∀ v ∈ st, ai_ok h v) (hl : ∀ w, some w ∈ ls → ai_ok h w) : ls'.length = ls.length ∧ (∀ v ∈ st', ai_ok h v) ∧ ∀ w, some w ∈ ls' → ai_ok h w := by
  unfold ai_loc at hp
  repeat' split at hp
  all_goals first
    | (cases hp; done)
    | (rename_i hi; cases hp; exact ⟨rfl, ai_oks (hl _ (List.mem_of_getElem? hi)) hs, hl⟩)
    | (obtain ⟨q, hq, hz⟩ := Option.map_eq_some_iff.mp hp
       cases hz
       exact ⟨(ai_st1_ok hq (hs _ List.mem_cons_self) hl).1, ai_okt hs, (ai_st1_ok hq (hs _ List.mem_cons_self) hl).2⟩)
    | (obtain ⟨q, hq, hz⟩ := Option.map_eq_some_iff.mp hp
       cases hz
       exact ⟨(ai_st2_ok hq (hs _ List.mem_cons_self) hl).1, ai_okt hs, (ai_st2_ok hq (hs _ List.mem_cons_self) hl).2⟩)
    | (obtain ⟨q, hq, hz⟩ := Option.map_eq_some_iff.mp hp
       cases hz
       exact ⟨(ai_st1_ok hq ai_ok_int hl).1, hs, (ai_st1_ok hq ai_ok_int hl).2⟩)
theorem ai_heap_len {dfl : Nat → List ai_V} {tyA : Nat → FieldType} {tyF : Nat → Nat → FieldType} {asg : Nat → Nat → Bool} {L : Nat} {xs : Nat → Int32} {ins : Instr} {ks : List Nat} {st st' : List ai_V} {h h' : ai_H} (hp : ai_heap dfl tyA tyF asg L xs ins ks st h = some (st', h')) {len : Nat} (hl : ai_lok ins len = true) : len = ai_len ins := by
  cases ins <;> first | (simpa [ai_lok] using hl; done) | (simp [ai_heap] at hp; done)
theorem ai_pure_len {ins : Instr} {st st' : List ai_V} (hp : ai_pure ins st = some st') {len : Nat} (hl : ai_lok ins len = true) : len = ai_len ins := by
  cases ins <;> first | (simpa [ai_lok] using hl; done) | (simp [ai_pure] at hp; done)
theorem ai_loc_len {ins : Instr} {ls ls' : ai_L} {st st' : List ai_V} (hp : ai_loc ins ls st = some (ls', st')) {len : Nat} (hl : ai_lok ins len = true) : len = ai_len ins := by
  cases ins <;> first | (simpa [ai_lok] using hl; done) | (simp [ai_loc] at hp; done)
/-- an exception that was caught is a new thing -/
theorem ai_R.exc {D : va_G} {cl : List vw_C} {dA : Nat → ClassId} {B : Nat → Prop} {ρ : ai_A → Nat} {h : ai_H} {H : Heap} {q : Nat} (hR : ai_R D cl dA B ρ h H) (hn : h.1 (1, h.2.1 1) = none) : ai_R D cl dA B (ai_at ρ (1, h.2.1 1) q) (ai_exc h) H ∧ ai_ex h ρ (ai_exc h) (ai_at ρ (1, h.2.1 1) q) := by
  have hle : ai_le h ρ (ai_at ρ (1, h.2.1 1) q) := ai_at_le hn
  have hm : ∀ b, (h.1 b).isSome = true → ((ai_exc h).1 b).isSome = true := by
    intro b hb
    by_cases z : b = (1, h.2.1 1)
    · simp [ai_exc, ai_upd, z]
    · simpa [ai_exc, ai_upd, z] using hb
  obtain ⟨dom, h1, hP, hD, hc⟩ := hR
  have hw : ai_ws dA (ai_at ρ (1, h.2.1 1) q) (ai_exc h) dom = ai_ws dA ρ h dom := by
    unfold ai_ws
    refine List.map_congr_left fun b hb => ?_
    obtain ⟨y, hy, hys⟩ := (h1 b).mp hb
    have hne : ¬ b = (1, h.2.1 1) := fun z => by
      subst z
      rw [hn] at hy
      cases hy
    have e1 : (ai_exc h).1 b = some y := by simp [ai_exc, ai_upd, hne, hy]
    rw [e1, hy]
    show (ai_at ρ (1, h.2.1 1) q b, ai_e dA (ai_at ρ (1, h.2.1 1) q) y) = (ρ b, ai_e dA ρ y)
    rw [hle b (by rw [hy]; rfl), ai_e_ext (hc b y hy) hle]
  refine ⟨⟨dom, fun b => ?_, by rw [hw]; exact hP, by rw [hw]; exact hD, fun b y hb => ?_⟩, hle, hm, fun b k hk hb => ?_⟩
  · rw [h1 b]
    by_cases z : b = (1, h.2.1 1)
    · subst z
      constructor
      · rintro ⟨x, hx, -⟩
        rw [hn] at hx
        cases hx
      · rintro ⟨x, hx, hs⟩
        have : x = .inr (.inr 1) := by
          have := hx
          simp [ai_exc, ai_upd] at this
          exact this.symm
        rw [this] at hs
        cases hs
    · have e1 : (ai_exc h).1 b = h.1 b := by simp [ai_exc, ai_upd, z]
      rw [e1]
  · by_cases z : b = (1, h.2.1 1)
    · subst z
      have : (Sum.inr (Sum.inr 1) : ai_C) = y := by simpa [ai_exc, ai_upd] using hb
      rw [← this]
      trivial
    · have : h.1 b = some y := by simpa [ai_exc, ai_upd, z] using hb
      exact ai_cok_mono hm (hc b y this)
  · by_cases z : b = (1, h.2.1 1)
    · subst z
      have : (1 : Nat) = k := by simpa [ai_exc, ai_upd] using hb
      exact absurd this.symm hk
    · simpa [ai_exc, ai_upd, z] using hb
