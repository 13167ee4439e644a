/-! rows over numbers from 0 on, and booleans; loops -/
/-- f at i, i+1, .. : n times -/
def it {α : Type} (f : Nat → α → α) (i n : Nat) (s : α) : α := match n with
  | 0 => s
  | n + 1 => it f (i + 1) n (f i s)
termination_by n
theorem it_0 {α : Type} (f : Nat → α → α) (i : Nat) (s : α) : it f i 0 s = s := by rw [it]
theorem it_s {α : Type} (f : Nat → α → α) (i n : Nat) (s : α) : it f i (n + 1) s = it f (i + 1) n (f i s) := by rw [it]
/-- the same, with a way out -/
def itx {α ρ : Type} (f : Nat → α → α ⊕ ρ) (i n : Nat) (s : α) : α ⊕ ρ := match n with
  | 0 => .inl s
  | n + 1 => match f i s with
    | .inl s' => itx f (i + 1) n s'
    | .inr r => .inr r
termination_by n
theorem itx_0 {α ρ : Type} (f : Nat → α → α ⊕ ρ) (i : Nat) (s : α) : itx f i 0 s = .inl s := by rw [itx]
theorem itx_l {α ρ : Type} (f : Nat → α → α ⊕ ρ) (i n : Nat) (s s' : α) (h : f i s = .inl s') : itx f i (n + 1) s = itx f (i + 1) n s' := by rw [itx]; simp only [h]
theorem itx_r {α ρ : Type} (f : Nat → α → α ⊕ ρ) (i n : Nat) (s : α) (r : ρ) (h : f i s = .inr r) : itx f i (n + 1) s = .inr r := by rw [itx]; simp only [h]
theorem it_loop {α : Type} {f : Nat → α → α} (N : Nat) (Wd : Nat → α → Prop) (hs : ∀ k s, k < N → Wd (k + 1) (f k s) → Wd k s) : ∀ (n k0 : Nat) (s0 : α), k0 + n = N → Wd N (it f k0 n s0) → Wd k0 s0 := by
  intro n
  induction n with
  | zero => intro k0 s0 h hw; have : k0 = N := by omega
            subst this; rw [it_0] at hw; exact hw
  | succ n ih => intro k0 s0 h hw; rw [it_s] at hw; exact hs k0 s0 (by omega) (ih (k0 + 1) (f k0 s0) (by omega) hw)
/-- the same where the invariant I holds -/
theorem it_loopI {α : Type} {f : Nat → α → α} (N : Nat) (I : α → Prop) (Wd : Nat → α → Prop) (hI : ∀ k s, k < N → I s → I (f k s)) (hs : ∀ k s, k < N → I s → Wd (k + 1) (f k s) → Wd k s) : ∀ (n k0 : Nat) (s0 : α), k0 + n = N → I s0 → (I (it f k0 n s0) → Wd N (it f k0 n s0)) → Wd k0 s0 := by
  intro n
  induction n with
  | zero => intro k0 s0 h hi hw; have : k0 = N := by omega
            subst this; rw [it_0] at hw; exact hw hi
  | succ n ih => intro k0 s0 h hi hw; rw [it_s] at hw; exact hs k0 s0 (by omega) hi (ih (k0 + 1) (f k0 s0) (by omega) (hI k0 s0 (by omega) hi) hw)
theorem itx_loop {α ρ : Type} {f : Nat → α → α ⊕ ρ} (N : Nat) (Wd : Nat → α → Prop) (T : α ⊕ ρ) (hs : ∀ k s, k < N → (∀ r, f k s = .inr r → T = .inr r) → (∀ s', f k s = .inl s' → Wd (k + 1) s') → Wd k s) : ∀ (n k0 : Nat) (s0 : α), k0 + n = N → itx f k0 n s0 = T → (∀ s, T = .inl s → Wd N s) → Wd k0 s0 := by
  intro n
  induction n with
  | zero => intro k0 s0 h ht hw; have : k0 = N := by omega
            subst this; rw [itx_0] at ht; exact hw s0 ht.symm
  | succ n ih =>
    intro k0 s0 h ht hw
    refine hs k0 s0 (by omega) (fun r hr => ?_) (fun s' hs' => ih (k0 + 1) s' (by omega) ?_ hw)
    · rw [← ht]; exact itx_r _ _ _ _ _ hr
    · rw [← ht]; exact (itx_l _ _ _ _ _ hs').symm
theorem itx_loopI {α ρ : Type} {f : Nat → α → α ⊕ ρ} (N : Nat) (I : α → Prop) (Wd : Nat → α → Prop) (T : α ⊕ ρ) (hs : ∀ k s, k < N → (∀ r, f k s = .inr r → T = .inr r) → I s → (∀ s', f k s = .inl s' → I s' → Wd (k + 1) s') → Wd k s) : ∀ (n k0 : Nat) (s0 : α), k0 + n = N → I s0 → itx f k0 n s0 = T → (∀ s, T = .inl s → I s → Wd N s) → Wd k0 s0 := by
  intro n
  induction n with
  | zero => intro k0 s0 h hi ht hw; have : k0 = N := by omega
            subst this; rw [itx_0] at ht; exact hw s0 ht.symm hi
  | succ n ih =>
    intro k0 s0 h hi ht hw
    refine hs k0 s0 (by omega) (fun r hr => ?_) hi (fun s' hs' hi' => ih (k0 + 1) s' (by omega) hi' ?_ hw)
    · rw [← ht]; exact itx_r _ _ _ _ _ hr
    · rw [← ht]; exact (itx_l _ _ _ _ _ hs').symm
/-- where a loop that may break off stands behind it -/
def unx {α : Type} : α ⊕ α → α
  | .inl s => s
  | .inr s => s
def unc {α : Type} (N : Nat) : α ⊕ (α × Nat) → α × Nat
  | .inl s => (s, N)
  | .inr s => s
section NV
variable {p : Program} {l : Launch} {e : Env} {R : Room} {s : State} {m : MethodId} {args : Array Value} {below : List Frame} {meth : Method} {c : Code} {H : Heap} {locs : List Loc} {cells slots : Nat} {Q : State → Prop}
variable {cc : ByteArray} {pc : Nat} {ls : Array Slot} {rest : List Value} {D : va_G} {cl : List vw_C} {A : Nat → Prop} {a : Nat} {tys : List (ClassId × FieldType)} {ws : va_W} {H0 : Heap}
theorem nv_iadd (hexec : p.tables.exec = Jvm.exec) (hb : c.code = cc) (x y : Nat) (hdg : decode cc pc = .ok (.iadd, 1)) (k : W p l e R s m args below meth c H locs cells slots Q (F0 m (pc + 1) ls (.int (nI (x + y)) :: rest))) : W p l e R s m args below meth c H locs cells slots Q (F0 m pc ls (.int (nI y) :: .int (nI x) :: rest)) := lv_iadd hexec hb hdg (by rw [nI_add]; exact k)
def bN (b : Bool) : Nat := cond b 1 0
theorem nI_bN (b : Bool) : nI (bN b) = bI b := by cases b <;> rfl
theorem nvb_iadd (hexec : p.tables.exec = Jvm.exec) (hb : c.code = cc) (x : Nat) (b : Bool) (hdg : decode cc pc = .ok (.iadd, 1)) (k : W p l e R s m args below meth c H locs cells slots Q (F0 m (pc + 1) ls (.int (nI (x + bN b)) :: rest))) : W p l e R s m args below meth c H locs cells slots Q (F0 m pc ls (.int (bI b) :: .int (nI x) :: rest)) := lv_iadd hexec hb hdg (by rw [← nI_bN, nI_add]; exact k)
theorem nv_isub (hexec : p.tables.exec = Jvm.exec) (hb : c.code = cc) (x y : Nat) (h : y ≤ x) (hdg : decode cc pc = .ok (.isub, 1)) (k : W p l e R s m args below meth c H locs cells slots Q (F0 m (pc + 1) ls (.int (nI (x - y)) :: rest))) : W p l e R s m args below meth c H locs cells slots Q (F0 m pc ls (.int (nI y) :: .int (nI x) :: rest)) := lv_isub hexec hb hdg (by rw [pk_sub h]; exact k)
theorem nv_imul (hexec : p.tables.exec = Jvm.exec) (hb : c.code = cc) (x y : Nat) (hdg : decode cc pc = .ok (.imul, 1)) (k : W p l e R s m args below meth c H locs cells slots Q (F0 m (pc + 1) ls (.int (nI (x * y)) :: rest))) : W p l e R s m args below meth c H locs cells slots Q (F0 m pc ls (.int (nI y) :: .int (nI x) :: rest)) := lv_imul hexec hb hdg (by rw [pk_mul]; exact k)
theorem nv_irem (hexec : p.tables.exec = Jvm.exec) (hb : c.code = cc) (x y : Nat) (hx : x < 2 ^ 31) (h0 : 0 < y) (hy : y < 2 ^ 31) (hdg : decode cc pc = .ok (.irem, 1)) (k : W p l e R s m args below meth c H locs cells slots Q (F0 m (pc + 1) ls (.int (nI (x % y)) :: rest))) : W p l e R s m args below meth c H locs cells slots Q (F0 m pc ls (.int (nI y) :: .int (nI x) :: rest)) := lv_irem hexec hb hdg (nI_ne0 h0 hy) (by rw [pk_rem hx h0 hy]; exact k)
theorem nv_iald (hexec : p.tables.exec = Jvm.exec) (hb : c.code = cc) (hK : va_K D cl tys s) (hP : va_P D cl ws H) (q0 t0 : Nat) {cA : ClassId} {n : Nat} {f : Nat → Int32} (ha : ws[q0]? = some (a, .inl (cA, n, .inl f))) (ht : tys[t0]? = some (cA, .int)) (i : Nat) (hi : i < n) (hn : n < 2 ^ 31) (hdg : decode cc pc = .ok (.iaload, 1))
    (kk : W p l e R s m args below meth c H locs cells slots Q (F0 m (pc + 1) ls (.int (f i) :: rest))) : W p l e R s m args below meth c H locs cells slots Q (F0 m pc ls (.int (nI i) :: .ref a :: rest)) := va_iald hexec hb hK hP q0 t0 ha ht (vp_in_nI hi hn) hdg (by rw [nI_clamp (Nat.lt_trans hi hn)]; exact kk)
theorem nv_iast (hexec : p.tables.exec = Jvm.exec) (hb : c.code = cc) (hK : va_K D cl tys s) (hP : va_P D cl ws H) (hD : va_D A ws) (hS : va_S A H0 H locs) (q0 t0 : Nat) {cA : ClassId} {n : Nat} {f : Nat → Int32} (ha : ws[q0]? = some (a, .inl (cA, n, .inl f))) (ht : tys[t0]? = some (cA, .int)) (i : Nat) {x : Int32} (hi : i < n) (hn : n < 2 ^ 31) (hdg : decode cc pc = .ok (.iastore, 1)) {ws' : va_W} (hws : ws.set q0 (a, .inl (cA, n, .inl (upd f i x))) = ws')
    (kk : ∀ (H1 : Heap) (locs1 : List Loc), va_P D cl ws' H1 → va_D A ws' → va_S A H0 H1 locs1 → W p l e R s m args below meth c H1 locs1 cells slots Q (F0 m (pc + 1) ls rest)) : W p l e R s m args below meth c H locs cells slots Q (F0 m pc ls (.int x :: .int (nI i) :: .ref a :: rest)) :=
  va_iast hexec hb hK hP hD hS q0 t0 ha ht (vp_in_nI hi hn) hdg (fun H1 locs1 h1 h2 h3 => by rw [nI_clamp (Nat.lt_trans hi hn), hws] at h1 h2; exact kk H1 locs1 h1 h2 h3)
theorem iv_iast (hexec : p.tables.exec = Jvm.exec) (hb : c.code = cc) (hK : va_K D cl tys s) (hP : va_P D cl ws H) (hD : va_D A ws) (hS : va_S A H0 H locs) (q0 t0 : Nat) {cA : ClassId} {n : Nat} {f : Nat → Int32} (ha : ws[q0]? = some (a, .inl (cA, n, .inl f))) (ht : tys[t0]? = some (cA, .int)) {i : Int32} {x : Int32} (hin : vp_in i n) (hdg : decode cc pc = .ok (.iastore, 1)) {ws' : va_W} (hws : ws.set q0 (a, .inl (cA, n, .inl (upd f i.toNatClampNeg x))) = ws')
    (kk : ∀ (H1 : Heap) (locs1 : List Loc), va_P D cl ws' H1 → va_D A ws' → va_S A H0 H1 locs1 → W p l e R s m args below meth c H1 locs1 cells slots Q (F0 m (pc + 1) ls rest)) : W p l e R s m args below meth c H locs cells slots Q (F0 m pc ls (.int x :: .int i :: .ref a :: rest)) :=
  va_iast hexec hb hK hP hD hS q0 t0 ha ht hin hdg (fun H1 locs1 h1 h2 h3 => by rw [hws] at h1 h2; exact kk H1 locs1 h1 h2 h3)
theorem nv_put (hexec : p.tables.exec = Jvm.exec) (hb : c.code = cc) {own ref C : String} {T : u_T} {N ci index : Nat} {Ts : List Cond} (hts : ∀ w ∈ Ts, w.before args s = true) (hin : ∀ w ∈ u_ws C T N, w ∈ Ts) (ty0 : Nat → FieldType) (hty : ∀ k, k < N → parseFieldDescriptor (T k).2.2.1 = some (ty0 k)) (hnm : ∀ a, a < N → ∀ b, b < N → a ≠ b → (T a).2.1 ≠ (T b).2.1) (hown : s.vm.findClass own = some m.cls) (hK : va_K D cl tys s) (hP : va_P D cl ws H) (hD : va_D A ws) (hS0 : va_S A H0 H locs) (q0 : Nat) {fs : List Value} (he : ws[q0]? = some (a, .inr (ci, fs))) (hc : cl[ci]? = some (C, T, N)) (k : Nat) (hk : k < N) (hlink : (Cond.fieldLink own index ref (T k).2.1 (T k).2.2.1).before args s = true) (hsame : ∀ x, s.fieldFound? (T k).1 (T k).2.1 (T k).2.2.1 = some x → s.fieldFound? ref (T k).2.1 (T k).2.2.1 = some x) (hfin : (T k).2.2.2 = false) {ty : FieldType} {v : Value} (hd : parseFieldDescriptor (T k).2.2.1 = some ty) (hn : narrow ty v = v) (hfit : fits ty v = true) (hl : k < fs.length)
    (hdg : decode cc pc = .ok (.putfield index, 3)) {ws' : va_W} (hws : ws.set q0 (a, .inr (ci, fs.set k v)) = ws') (kk : ∀ (H1 : Heap) (locs1 : List Loc), va_P D cl ws' H1 → va_D A ws' → va_S A H0 H1 locs1 → W p l e R s m args below meth c H1 locs1 cells slots Q (F0 m (pc + 3) ls rest)) : W p l e R s m args below meth c H locs cells slots Q (F0 m pc ls (v :: .ref a :: rest)) :=
  va_put hexec hb hts hin ty0 hty hnm hown hK hP hD hS0 q0 he hc k hk hlink hsame hfin hd hn hfit hl hdg (fun H1 locs1 h1 h2 h3 => by rw [hws] at h1 h2; exact kk H1 locs1 h1 h2 h3)
theorem nv_ge (hexec : p.tables.exec = Jvm.exec) (hb : c.code = cc) {off : Int} (x y tgt : Nat) (hx : x < 2 ^ 31) (hy : y < 2 ^ 31) (hdg : decode cc pc = .ok (.if_icmp .ge off, 3)) (ht : (pc : Int) + off = (tgt : Int))
    (kt : y ≤ x → W p l e R s m args below meth c H locs cells slots Q (F0 m tgt ls rest)) (kf : ¬ y ≤ x → W p l e R s m args below meth c H locs cells slots Q (F0 m (pc + 3) ls rest)) : W p l e R s m args below meth c H locs cells slots Q (F0 m pc ls (.int (nI y) :: .int (nI x) :: rest)) :=
  lv_icmp_ge hexec hb hdg ht (fun h => kt ((nI_leI hy hx).mp h)) (fun h => kf (fun h2 => h ((nI_leI hy hx).mpr h2)))
theorem nv_gt (hexec : p.tables.exec = Jvm.exec) (hb : c.code = cc) {off : Int} (x y tgt : Nat) (hx : x < 2 ^ 31) (hy : y < 2 ^ 31) (hdg : decode cc pc = .ok (.if_icmp .gt off, 3)) (ht : (pc : Int) + off = (tgt : Int))
    (kt : y < x → W p l e R s m args below meth c H locs cells slots Q (F0 m tgt ls rest)) (kf : ¬ y < x → W p l e R s m args below meth c H locs cells slots Q (F0 m (pc + 3) ls rest)) : W p l e R s m args below meth c H locs cells slots Q (F0 m pc ls (.int (nI y) :: .int (nI x) :: rest)) :=
  lv_icmp_gt hexec hb hdg ht (fun h => kt ((nI_ltI hy hx).mp h)) (fun h => kf (fun h2 => h ((nI_ltI hy hx).mpr h2)))
theorem nv_le (hexec : p.tables.exec = Jvm.exec) (hb : c.code = cc) {off : Int} (x y tgt : Nat) (hx : x < 2 ^ 31) (hy : y < 2 ^ 31) (hdg : decode cc pc = .ok (.if_icmp .le off, 3)) (ht : (pc : Int) + off = (tgt : Int))
    (kt : x ≤ y → W p l e R s m args below meth c H locs cells slots Q (F0 m tgt ls rest)) (kf : ¬ x ≤ y → W p l e R s m args below meth c H locs cells slots Q (F0 m (pc + 3) ls rest)) : W p l e R s m args below meth c H locs cells slots Q (F0 m pc ls (.int (nI y) :: .int (nI x) :: rest)) :=
  lv_icmp_le hexec hb hdg ht (fun h => kt ((nI_leI hx hy).mp h)) (fun h => kf (fun h2 => h ((nI_leI hx hy).mpr h2)))
theorem nv_lt (hexec : p.tables.exec = Jvm.exec) (hb : c.code = cc) {off : Int} (x y tgt : Nat) (hx : x < 2 ^ 31) (hy : y < 2 ^ 31) (hdg : decode cc pc = .ok (.if_icmp .lt off, 3)) (ht : (pc : Int) + off = (tgt : Int))
    (kt : x < y → W p l e R s m args below meth c H locs cells slots Q (F0 m tgt ls rest)) (kf : ¬ x < y → W p l e R s m args below meth c H locs cells slots Q (F0 m (pc + 3) ls rest)) : W p l e R s m args below meth c H locs cells slots Q (F0 m pc ls (.int (nI y) :: .int (nI x) :: rest)) :=
  lv_icmp_lt hexec hb hdg ht (fun h => kt ((nI_ltI hx hy).mp h)) (fun h => kf (fun h2 => h ((nI_ltI hx hy).mpr h2)))
theorem nv_eq (hexec : p.tables.exec = Jvm.exec) (hb : c.code = cc) {off : Int} (x y tgt : Nat) (hx : x < 2 ^ 31) (hy : y < 2 ^ 31) (hdg : decode cc pc = .ok (.if_icmp .eq off, 3)) (ht : (pc : Int) + off = (tgt : Int))
    (kt : x = y → W p l e R s m args below meth c H locs cells slots Q (F0 m tgt ls rest)) (kf : ¬ x = y → W p l e R s m args below meth c H locs cells slots Q (F0 m (pc + 3) ls rest)) : W p l e R s m args below meth c H locs cells slots Q (F0 m pc ls (.int (nI y) :: .int (nI x) :: rest)) :=
  lv_icmp_eq hexec hb hdg ht (fun h => kt ((nI_eq hx hy).mp h)) (fun h => kf (fun h2 => h ((nI_eq hx hy).mpr h2)))
theorem nv_ne (hexec : p.tables.exec = Jvm.exec) (hb : c.code = cc) {off : Int} (x y tgt : Nat) (hx : x < 2 ^ 31) (hy : y < 2 ^ 31) (hdg : decode cc pc = .ok (.if_icmp .ne off, 3)) (ht : (pc : Int) + off = (tgt : Int))
    (kt : ¬ x = y → W p l e R s m args below meth c H locs cells slots Q (F0 m tgt ls rest)) (kf : x = y → W p l e R s m args below meth c H locs cells slots Q (F0 m (pc + 3) ls rest)) : W p l e R s m args below meth c H locs cells slots Q (F0 m pc ls (.int (nI y) :: .int (nI x) :: rest)) :=
  lv_icmp_ne hexec hb hdg ht (fun h => kt (fun h2 => h ((nI_eq hx hy).mpr h2))) (fun h => kf ((nI_eq hx hy).mp h))
theorem iv_ne (hexec : p.tables.exec = Jvm.exec) (hb : c.code = cc) {off : Int} {x y : Int32} (tgt : Nat) (hdg : decode cc pc = .ok (.if_icmp .ne off, 3)) (ht : (pc : Int) + off = (tgt : Int))
    (kt : ¬ x = y → W p l e R s m args below meth c H locs cells slots Q (F0 m tgt ls rest)) (kf : x = y → W p l e R s m args below meth c H locs cells slots Q (F0 m (pc + 3) ls rest)) : W p l e R s m args below meth c H locs cells slots Q (F0 m pc ls (.int y :: .int x :: rest)) :=
  lv_icmp_ne hexec hb hdg ht (fun h => kt h) (fun h => kf h)
theorem iv_ifne (hexec : p.tables.exec = Jvm.exec) (hb : c.code = cc) {off : Int} {x : Int32} (tgt : Nat) (hdg : decode cc pc = .ok (.ifCond .ne off, 3)) (ht : (pc : Int) + off = (tgt : Int))
    (kt : ¬ x = 0 → W p l e R s m args below meth c H locs cells slots Q (F0 m tgt ls rest)) (kf : x = 0 → W p l e R s m args below meth c H locs cells slots Q (F0 m (pc + 3) ls rest)) : W p l e R s m args below meth c H locs cells slots Q (F0 m pc ls (.int x :: rest)) :=
  lv_if_ne hexec hb hdg ht (fun h => kt h) (fun h => kf h)
/-- a loop's head whose bound is any int -/
theorem nv_geI (hexec : p.tables.exec = Jvm.exec) (hb : c.code = cc) {off : Int} (x : Nat) {y : Int32} (tgt : Nat) (hx : x ≤ y.toNatClampNeg) (hdg : decode cc pc = .ok (.if_icmp .ge off, 3)) (ht : (pc : Int) + off = (tgt : Int))
    (kt : x = y.toNatClampNeg → W p l e R s m args below meth c H locs cells slots Q (F0 m tgt ls rest)) (kf : x < y.toNatClampNeg → W p l e R s m args below meth c H locs cells slots Q (F0 m (pc + 3) ls rest)) : W p l e R s m args below meth c H locs cells slots Q (F0 m pc ls (.int y :: .int (nI x) :: rest)) := by
  have hy : y.toInt.toNat < 2 ^ 31 := by
    have := Int32.toInt_lt y
    omega
  have hx2 : x < 2 ^ 31 := Nat.lt_of_le_of_lt hx hy
  have e1 : (nI x).toInt = (x : Int) := nI_toInt hx2
  have e2 : y.toNatClampNeg = y.toInt.toNat := rfl
  refine lv_icmp_ge hexec hb hdg ht (fun h => kt ?_) (fun h => kf ?_)
  · have h2 := Int32.le_iff_toInt_le.mp h
    rw [e1] at h2
    rw [e2] at hx ⊢
    omega
  · have h2 : ¬ y.toInt ≤ (nI x).toInt := fun q => h (Int32.le_iff_toInt_le.mpr q)
    rw [e1] at h2
    rw [e2]
    omega
theorem bv_ifeq (hexec : p.tables.exec = Jvm.exec) (hb : c.code = cc) {off : Int} (b : Bool) (tgt : Nat) (hdg : decode cc pc = .ok (.ifCond .eq off, 3)) (ht : (pc : Int) + off = (tgt : Int))
    (kt : ¬ b = true → W p l e R s m args below meth c H locs cells slots Q (F0 m tgt ls rest)) (kf : b = true → W p l e R s m args below meth c H locs cells slots Q (F0 m (pc + 3) ls rest)) : W p l e R s m args below meth c H locs cells slots Q (F0 m pc ls (.int (bI b) :: rest)) := by
  refine lv_if_eq hexec hb hdg ht (fun h => kt ?_) (fun h => kf ?_)
  · rw [bI_ne.mp h]; decide
  · cases b
    · exact absurd rfl h
    · rfl
theorem bv_ifne (hexec : p.tables.exec = Jvm.exec) (hb : c.code = cc) {off : Int} (b : Bool) (tgt : Nat) (hdg : decode cc pc = .ok (.ifCond .ne off, 3)) (ht : (pc : Int) + off = (tgt : Int))
    (kt : b = true → W p l e R s m args below meth c H locs cells slots Q (F0 m tgt ls rest)) (kf : ¬ b = true → W p l e R s m args below meth c H locs cells slots Q (F0 m (pc + 3) ls rest)) : W p l e R s m args below meth c H locs cells slots Q (F0 m pc ls (.int (bI b) :: rest)) := by
  refine iv_ifne hexec hb tgt hdg ht (fun h => kt ?_) (fun h => kf ?_)
  · cases b
    · exact absurd rfl h
    · rfl
  · rw [bI_ne.mp h]; decide
theorem nv_iinc {i nL k : Nat} {lv lv' : List (Nat × Value)} (hexec : p.tables.exec = Jvm.exec) (hb : c.code = cc) (x : Nat) (hdg : decode cc pc = .ok (.iinc i 1, 3)) (h : lv_has ls nL lv) (hk : lv[k]? = some (i, .int (nI x))) (hn : i < nL) (hl : (i, Value.int (nI (x + 1))) :: lv.filter (fun q => !(q.1 == i) && !(q.1 + 1 == i && q.2.category == 2)) = lv')
    (kk : ∀ ls' : Array Slot, lv_has ls' nL lv' → W p l e R s m args below meth c H locs cells slots Q (F0 m (pc + 3) ls' rest)) : W p l e R s m args below meth c H locs cells slots Q (F0 m pc ls rest) := lv_iinc (v := nI (x + 1)) hexec hb hdg h hk (by rw [← nI_1]; rfl) hn hl kk
theorem cell_congr {cA : ClassId} {n : Nat} {f g : Nat → Int32} (h : ∀ j, j < n → f j = g j) : vp_cell cA (n, .inl f) = vp_cell cA (n, .inl g) := by
  rw [vp_cell_i, vp_cell_i]
  unfold arrV
  congr 2
  funext j
  exact congrArg Value.int (h j.val j.isLt)
/-- other numbers behind a row's end are the same row -/
theorem va_P_re {ws : va_W} (q1 : Nat) {c1 : ClassId} {n : Nat} {f g : Nat → Int32} (hg : ∀ j, j < n → f j = g j) (hP : va_P D cl (ws.set q1 (a, .inl (c1, n, .inl f))) H) : va_P D cl (ws.set q1 (a, .inl (c1, n, .inl g))) H := by
  intro k q hk
  rcases Classical.em (k = q1) with rfl | hne
  · have hl : k < ws.length := by
      have := (List.getElem?_eq_some_iff.mp hk).1
      simpa using this
    rw [List.getElem?_set_self hl] at hk
    cases hk
    have h1 := hP k _ (List.getElem?_set_self hl)
    show H[a]? = some (vp_cell c1 (n, .inl g))
    rw [← cell_congr hg]
    exact h1
  · refine hP k q ?_
    rw [List.getElem?_set_ne (Ne.symm hne)] at hk ⊢
    exact hk
theorem nv_copyall {cc : ByteArray} (hexec : p.tables.exec = Jvm.exec) (hb : c.code = cc) (hml : c.maxLocals = ls.size) {own : String} {index : Nat} (hown : s.vm.findClass own = some m.cls) (hlink : (Cond.methodLink own index arraycopyName).before args s = true) (hnat : (Cond.native arraycopyName).before args s = true) (hstat : (Cond.static arraycopyName).before args s = true) (hini : (Cond.initialized "java/lang/System").before args s = true)
    (hK : va_K D cl tys s) (hP : va_P D cl ws H) (hD : va_D A ws) (hS : va_S A H0 H locs) (q0 q1 t0 n : Nat) {a0 : Nat} {c0 : ClassId} {f g : Nat → Int32} (ha0 : ws[q0]? = some (a0, .inl (c0, n, .inl f))) (ha1 : ws[q1]? = some (a, .inl (c0, n, .inl g))) (ht0 : tys[t0]? = some (c0, .int)) {v : Int32} (hv : v.toNatClampNeg = n) (hv0 : ¬ v < 0)
    (hframes : 1 ≤ R.frames) (hlocals : (rest.map fun v => v.category).sum + (nativeFrameWords "java/lang/System" "arraycopy" 5 + 11) ≤ R.locals) (hdg : decode cc pc = .ok (.invokestatic index, 3)) {ws' : va_W} (hws : ws.set q1 (a, .inl (c0, n, .inl f)) = ws')
    (kk : ∀ (H1 : Heap) (locs1 : List Loc), va_P D cl ws' H1 → va_D A ws' → va_S A H0 H1 locs1 → W p l e R s m args below meth c H1 locs1 cells slots Q (F0 m (pc + 3) ls rest)) : W p l e R s m args below meth c H locs cells slots Q (F0 m pc ls (.int v :: .int 0 :: .ref a :: .int 0 :: .ref a0 :: rest)) := by
  refine va_copyi hexec hb hml hown hlink hnat hstat hini hK hP hD hS q0 q1 t0 t0 (ty := .int) ha0 ha1 ht0 ht0 rfl (sp := 0) (dp := 0) (by decide) (by decide) hv0 (by rw [hv]; exact Nat.le_of_eq (Nat.zero_add n)) (by rw [hv]; exact Nat.le_of_eq (Nat.zero_add n)) (fun _ _ => rfl) hframes hlocals hdg (fun H1 locs1 h1 h2 h3 => ?_)
  subst hws
  refine kk H1 locs1 (va_P_re (f := va_cpy f g (0 : Int32).toNatClampNeg (0 : Int32).toNatClampNeg v.toNatClampNeg) q1 (fun j hj => ?_) h1) (hD.set ha1) h3
  rw [hv, show (0 : Int32).toNatClampNeg = 0 from rfl]
  unfold va_cpy
  rw [if_pos ⟨Nat.zero_le j, by omega⟩]
  congr 1
  omega
theorem nv_aald (hexec : p.tables.exec = Jvm.exec) (hb : c.code = cc) (hK : va_K D cl tys s) (hP : va_P D cl ws H) (q0 t0 : Nat) {cA : ClassId} {C : String} {n : Nat} {f : Nat → Option Nat} (ha : ws[q0]? = some (a, .inl (cA, n, .inr (.inr (.inr (.inr f)))))) (ht : tys[t0]? = some (cA, .object C)) (i : Nat) (hi : i < n) (hn : n < 2 ^ 31) {a2 : Nat} (h2 : f i = some a2) (hdg : decode cc pc = .ok (.aaload, 1))
    (kk : W p l e R s m args below meth c H locs cells slots Q (F0 m (pc + 1) ls (.ref a2 :: rest))) : W p l e R s m args below meth c H locs cells slots Q (F0 m pc ls (.int (nI i) :: .ref a :: rest)) := va_aldq hexec hb hK hP q0 t0 ha ht (vp_in_nI hi hn) hdg (by rw [nI_clamp (Nat.lt_trans hi hn), h2]; exact kk)
theorem va_P_rq {ws : va_W} (q1 : Nat) {c1 : ClassId} {n : Nat} {f g : Nat → Option Nat} (hg : ∀ j, j < n → f j = g j) (hP : va_P D cl (ws.set q1 (a, .inl (c1, n, .inr (.inr (.inr (.inr f)))))) H) : va_P D cl (ws.set q1 (a, .inl (c1, n, .inr (.inr (.inr (.inr g)))))) H := by
  have hc : vp_cell c1 (n, .inr (.inr (.inr (.inr f)))) = vp_cell c1 (n, .inr (.inr (.inr (.inr g)))) := by
    rw [vp_cell_q, vp_cell_q]
    unfold arrV
    congr 2
    funext j
    exact congrArg va_rf (hg j.val j.isLt)
  intro k q hk
  rcases Classical.em (k = q1) with rfl | hne
  · have hl : k < ws.length := by
      have := (List.getElem?_eq_some_iff.mp hk).1
      simpa using this
    rw [List.getElem?_set_self hl] at hk
    cases hk
    have h1 := hP k _ (List.getElem?_set_self hl)
    show H[a]? = some (vp_cell c1 (n, .inr (.inr (.inr (.inr g)))))
    rw [← hc]
    exact h1
  · refine hP k q ?_
    rw [List.getElem?_set_ne (Ne.symm hne)] at hk ⊢
    exact hk
theorem nv_aast (hexec : p.tables.exec = Jvm.exec) (hb : c.code = cc) (hK : va_K D cl tys s) (hP : va_P D cl ws H) (hD : va_D A ws) (hS : va_S A H0 H locs) (q0 t0 qk ci : Nat) {cA : ClassId} {r : vw_C} {n v : Nat} {vs : List Value} {f : Nat → Option Nat} (ha : ws[q0]? = some (a, .inl (cA, n, .inr (.inr (.inr (.inr f)))))) (ht : tys[t0]? = some (cA, .object r.1)) (hv : ws[qk]? = some (v, .inr (ci, vs))) (hc : cl[ci]? = some r) (i : Nat) (hi : i < n) (hn : n < 2 ^ 31) (hdg : decode cc pc = .ok (.aastore, 1)) {f' : Nat → Option Nat} (hf : ∀ j, j < n → va_up f i (some v) j = f' j) {ws' : va_W} (hws : ws.set q0 (a, .inl (cA, n, .inr (.inr (.inr (.inr f'))))) = ws')
    (kk : ∀ (H1 : Heap) (locs1 : List Loc), va_P D cl ws' H1 → va_D A ws' → va_S A H0 H1 locs1 → W p l e R s m args below meth c H1 locs1 cells slots Q (F0 m (pc + 1) ls rest)) : W p l e R s m args below meth c H locs cells slots Q (F0 m pc ls (.ref v :: .int (nI i) :: .ref a :: rest)) := by
  subst hws
  refine va_astq hexec hb hK hP hD hS q0 t0 qk ci ha ht hv hc (vp_in_nI hi hn) hdg (fun H1 locs1 h1 h2 h3 => ?_)
  rw [nI_clamp (Nat.lt_trans hi hn)] at h1 h2
  exact kk H1 locs1 (va_P_rq q0 hf h1) (hD.set ha) h3
end NV
